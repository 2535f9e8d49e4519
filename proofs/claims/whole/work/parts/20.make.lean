/-! cells in the making: rows for constructors -/
def T_ : (Nat → Nat → Nat) → Prop := fun _ => True
def Zr (N : Nat) (M : Mem) : Prop := ∀ a, N < a → (M.1 a = fun _ => 0) ∧ (M.2.1 a = fun _ => 0) ∧ (M.2.2 a = fun _ => 0)
theorem Zr.up {N K : Nat} {M : Mem} (h : Zr N M) (hk : N ≤ K) : Zr K M := fun a ha => h a (Nat.lt_of_le_of_lt hk ha)
theorem Zr.sI {N a i : Nat} {v : Int32} {M : Mem} (h : Zr N M) (ha : a ≤ N) : Zr N (sI M a i v) := fun b hb => ⟨(up2_row (by omega)).trans (h b hb).1, (h b hb).2.1, (h b hb).2.2⟩
theorem Zr.sR {N a i v : Nat} {M : Mem} (h : Zr N M) (ha : a ≤ N) : Zr N (sR M a i v) := fun b hb => ⟨(h b hb).1, (h b hb).2.1, (up2_row (by omega)).trans (h b hb).2.2⟩
/-- the classes River[] and int[][] stand -/
def AO (U : State) : Prop := va_AO "BumpsRiver$River" U ∧ ∃ (comp c : ClassId) (k : Class), U.vm.findClass "[I" = some comp ∧ U.vm.classes[c]? = some k ∧ k.kind = .array comp (.array .int) ∧ U.vm.findClass "[[I" = some c
theorem AO.moved {u U : State} (hvm : u.vm.Alike U.vm) (h : AO u) : AO U := by
  obtain ⟨h1, comp, c, k, h2, h3, h4, h5⟩ := h
  obtain ⟨k', hk', he⟩ := hvm.2.2 _ _ h3
  exact ⟨h1.moved hvm, comp, c, k', by rw [hvm.findClass]; exact h2, hk', by rw [he]; exact h4, by rw [hvm.findClass]; exact h5⟩
/-- the world in the making: N cells stand, all behind them is to come -/
def Wz (G : GG) (B N : Nat) (s : State) (M : Mem) (H : Heap) (locs : List Loc) : Prop := Wo T_ G B N s M H locs ∧ H.size = B + N + 1 ∧ Zr N M ∧ AO s
def PcZ (G : GG) (B N : Nat) (M : Mem) (av : List Value) : Array Value → State → Prop := va_Pc av (fun U => BW T_ G B N M U ∧ U.heap.size = B + N + 1 ∧ Zr N M ∧ AO U)
def QcZ (G : GG) (B N : Nat) (M : Mem) : Array Value → State → Outcome → State → Prop := va_Qv (S := Unit) (fun _ => True) (fun _ t => BW T_ G B N M t ∧ t.heap.size = B + N + 1 ∧ Zr N M) (fun q : Nat => B < q)
abbrev rmZ (k mc ms : Nat) : Room := { frames := k, cells := mc, slots := ms, locals := 64 * k }
theorem wl_succ {G : GG} {B N : Nat} {M : Mem} : wl G B (N + 1) M = wl G B N M ++ [(B + (N + 1), ce G B M (N + 1))] := by
  unfold wl
  rw [List.range_succ, List.map_append]
  rfl
theorem wl_grow {G : GG} {B N : Nat} {M : Mem} {H H1 : Heap} (hP : va_P G.1 vwCl (wl G B N M) H) (o1 : ∀ q, q < H.size → H1[q]? = H[q]?) (h1 : va_at G.1 vwCl (B + (N + 1), ce G B M (N + 1)) H1) : va_P G.1 vwCl (wl G B (N + 1) M) H1 := by
  rw [wl_succ]
  refine (hP.kept (fun k x hx => o1 x.1 ((hP k x hx).lt))).app (fun k x hx => ?_)
  have hz : k < 1 := (List.getElem?_eq_some_iff.mp hx).1
  rw [show k = 0 by omega] at hx
  cases hx
  exact h1
theorem wo_grow {G : GG} {B N : Nat} {s : State} {M : Mem} {H H1 : Heap} {locs : List Loc} (wz : Wz G B N s M H locs) (z1 : H1.size = H.size + 1) (o1 : ∀ q, q < H.size → H1[q]? = H[q]?) (h1 : va_at G.1 vwCl (B + (N + 1), ce G B M (N + 1)) H1) : Wz G B (N + 1) s M H1 locs := by
  obtain ⟨⟨hP, hS, hB, hΦ, hE⟩, hz, hZ, hA⟩ := wz
  exact ⟨⟨wl_grow hP o1 h1, ⟨Nat.le_trans hS.1 (by omega), fun x h2 h3 => (o1 x (Nat.lt_of_lt_of_le h2 hS.1)).trans (hS.2.1 x h2 h3), hS.2.2⟩, hB, hΦ, hE⟩, by omega, hZ.up (by omega), hA⟩
theorem oF_zero {B : Nat} {M : Mem} {a : Nat} (fk : List Nat) (h1 : M.1 a = fun _ => 0) (h2 : M.2.2 a = fun _ => 0) (j : Nat) (hj : j < fk.length) : vp_V (oF B M a 0 fk) j = if fk[j]? = some 0 then Value.int 0 else Value.null := by
  unfold vp_V
  rw [List.getD_eq_getElem?_getD, oF_get]
  have hq : fk[j]? = some fk[j] := List.getElem?_eq_getElem hj
  rw [hq, h1, h2]
  by_cases e : fk[j] = 0
  · simp [e]
  · simp [e, rv, va_rf]
/-- a class whose objects are made: its words, its fields' kinds -/
def NI (own : String) (idx ci n : Nat) : Prop := ∃ (C : String) (T : u_T) (ty0 : Nat → FieldType), vwCl[ci]? = some (C, T, n) ∧ Cond.classLink own idx C ∈ gtbl ∧ Cond.instantiable C n ∈ gtbl ∧ Cond.initialized C ∈ gtbl ∧ (∀ w ∈ u_ws C T n, w ∈ gtbl) ∧ (∀ k, k < n → parseFieldDescriptor (T k).2.2.1 = some (ty0 k)) ∧ (fks ci).length = n ∧ ∀ k, k < n → defaultValue (ty0 k) = if (fks ci)[k]? = some 0 then Value.int 0 else Value.null
section Make
variable {p : Program} {l : Launch} {e : Env} {R : Room} {s : State} {m : MethodId} {args : Array Value} {below : List Frame} {meth : Method} {c : Code} {H : Heap} {locs : List Loc} {cells slots : Nat} {Q : State → Prop} {cc : ByteArray} {pc nL : Nat} {ls : Array Slot} {rest st : List Value} {own : String} {G : GG} {B N : Nat} {M M' : Mem} {a ci k idx n : Nat}
variable {y : MethodName} {bytes : ByteArray} {maxL : Nat} {As : List Value}
theorem z_new (cx : Cx p s m args c cc nL own G) (wz : Wz G B N s M H locs) (ni : NI own idx ci n) (hs : (sh (N + 1)).1 = ci + 10) (hcells : cells + 1 ≤ R.cells) (hslots : slots + n ≤ R.slots) (hdg : decode cc pc = .ok (.new idx, 3))
    (kk : ∀ H1 : Heap, Wz G B (N + 1) s M H1 locs → W p l e R s m args below meth c H1 locs (cells + 1) (slots + n) Q (F0 m (pc + 3) ls (.ref (B + (N + 1)) :: rest))) : W p l e R s m args below meth c H locs cells slots Q (F0 m pc ls rest) := by
  obtain ⟨hx, hb, hml, hown, hts, hK⟩ := cx
  obtain ⟨C, T, ty0, h1, h2, h3, h4, h5, h6, h7, h8⟩ := ni
  have hKn := hK.1 ci _ h1
  have hsz : H.size = B + (N + 1) := by have := wz.2.1; omega
  refine W.newcK hx hb hown (hts _ h2) (hts _ h3) (hts _ h4) rfl hdg hcells hslots hKn.2.1 hsz fun H1 kC hkC e1 z1 o1 => ?_
  refine kk H1 (wo_grow wz (by omega) (fun q hq => o1 q (by omega)) ?_)
  show va_at G.1 vwCl (B + (N + 1), ce G B M (N + 1)) H1
  rw [ce_o hs]
  have hz := wz.2.2.1 (N + 1) (by omega)
  exact ⟨_, h1, (u_born ty0 hts h5 hKn hkC e1 h6).to (fun j hj => by rw [h8 j hj, oF_zero _ hz.1 hz.2.2 j (by rw [h7]; exact hj)])⟩
theorem z_newI (cx : Cx p s m args c cc nL own G) (wz : Wz G B N s M H locs) (hw : Cond.arrayClass .int ∈ gtbl) {x : Int32} {len : Nat} (hx0 : ¬ x < 0) (hxl : x.toNatClampNeg = len) (hs : sh (N + 1) = (0, len)) (hlen : len ≤ 1000) (hcells : cells + 1 ≤ R.cells) (hslots : slots + len ≤ R.slots) (hdg : decode cc pc = .ok (.newarray .int, 2))
    (kk : ∀ H1 : Heap, Wz G B (N + 1) s M H1 locs → W p l e R s m args below meth c H1 locs (cells + 1) (slots + len) Q (F0 m (pc + 2) ls (.ref (B + (N + 1)) :: rest))) : W p l e R s m args below meth c H locs cells slots Q (F0 m pc ls (.int x :: rest)) := by
  obtain ⟨hx, hb, hml, hown, hts, hK⟩ := cx
  have hsz : H.size = B + (N + 1) := by have := wz.2.1; omega
  refine va_newaK (atype := .int) hx hb (hts _ hw) rfl hdg rfl hx0 hxl (by show len * componentBytes .int ≤ _; simp [componentBytes]; omega) hcells hslots hsz fun H1 cA e1 z1 o1 hAr hNm => ?_
  refine kk H1 (wo_grow wz (by omega) (fun q hq => o1 q (by omega)) ?_)
  rw [ce_0 (by rw [hs])]
  have hc : G.2.1 0 = cA := Option.some.inj (((hK.2 0 _ rfl).2 : s.vm.findClass _ = some (G.2.1 0)).symm.trans hNm)
  have hz := wz.2.2.1 (N + 1) (by omega)
  show H1[B + (N + 1)]? = some (vp_cell (G.2.1 0) (ln (N + 1), .inl (M.1 (N + 1))))
  rw [e1, hc, hz.1, show ln (N + 1) = len by unfold ln; rw [hs]]
  rfl
theorem z_newZ (cx : Cx p s m args c cc nL own G) (wz : Wz G B N s M H locs) (hw : Cond.arrayClass .boolean ∈ gtbl) {x : Int32} {len : Nat} (hx0 : ¬ x < 0) (hxl : x.toNatClampNeg = len) (hs : sh (N + 1) = (1, len)) (hlen : len ≤ 1000) (hcells : cells + 1 ≤ R.cells) (hslots : slots + len ≤ R.slots) (hdg : decode cc pc = .ok (.newarray .boolean, 2))
    (kk : ∀ H1 : Heap, Wz G B (N + 1) s M H1 locs → W p l e R s m args below meth c H1 locs (cells + 1) (slots + len) Q (F0 m (pc + 2) ls (.ref (B + (N + 1)) :: rest))) : W p l e R s m args below meth c H locs cells slots Q (F0 m pc ls (.int x :: rest)) := by
  obtain ⟨hx, hb, hml, hown, hts, hK⟩ := cx
  have hsz : H.size = B + (N + 1) := by have := wz.2.1; omega
  refine va_newaK (atype := .boolean) hx hb (hts _ hw) rfl hdg rfl hx0 hxl (by show len * componentBytes .boolean ≤ _; simp [componentBytes]; omega) hcells hslots hsz fun H1 cA e1 z1 o1 hAr hNm => ?_
  refine kk H1 (wo_grow wz (by omega) (fun q hq => o1 q (by omega)) ?_)
  rw [ce_1 (by rw [hs])]
  have hc : G.2.1 1 = cA := Option.some.inj (((hK.2 1 _ rfl).2 : s.vm.findClass _ = some (G.2.1 1)).symm.trans hNm)
  have hz := wz.2.2.1 (N + 1) (by omega)
  show H1[B + (N + 1)]? = some (vp_cell (G.2.1 1) (ln (N + 1), .inl (M.1 (N + 1))))
  rw [e1, hc, hz.1, show ln (N + 1) = len by unfold ln; rw [hs]]
  rfl
theorem z_newJ (cx : Cx p s m args c cc nL own G) (wz : Wz G B N s M H locs) (hw : Cond.arrayClass .long ∈ gtbl) {x : Int32} {len : Nat} (hx0 : ¬ x < 0) (hxl : x.toNatClampNeg = len) (hs : sh (N + 1) = (2, len)) (hlen : len ≤ 1000) (hcells : cells + 1 ≤ R.cells) (hslots : slots + len ≤ R.slots) (hdg : decode cc pc = .ok (.newarray .long, 2))
    (kk : ∀ H1 : Heap, Wz G B (N + 1) s M H1 locs → W p l e R s m args below meth c H1 locs (cells + 1) (slots + len) Q (F0 m (pc + 2) ls (.ref (B + (N + 1)) :: rest))) : W p l e R s m args below meth c H locs cells slots Q (F0 m pc ls (.int x :: rest)) := by
  obtain ⟨hx, hb, hml, hown, hts, hK⟩ := cx
  have hsz : H.size = B + (N + 1) := by have := wz.2.1; omega
  refine va_newaK (atype := .long) hx hb (hts _ hw) rfl hdg rfl hx0 hxl (by show len * componentBytes .long ≤ _; simp [componentBytes]; omega) hcells hslots hsz fun H1 cA e1 z1 o1 hAr hNm => ?_
  refine kk H1 (wo_grow wz (by omega) (fun q hq => o1 q (by omega)) ?_)
  rw [ce_2 (by rw [hs])]
  have hc : G.2.1 2 = cA := Option.some.inj (((hK.2 2 _ rfl).2 : s.vm.findClass _ = some (G.2.1 2)).symm.trans hNm)
  have hz := wz.2.2.1 (N + 1) (by omega)
  show H1[B + (N + 1)]? = some (vp_cell (G.2.1 2) (ln (N + 1), .inr (.inl (M.2.1 (N + 1)))))
  rw [e1, hc, hz.2.1, show ln (N + 1) = len by unfold ln; rw [hs]]
  rfl
theorem z_newR (cx : Cx p s m args c cc nL own G) (wz : Wz G B N s M H locs) (hcl : Cond.classLink own idx "BumpsRiver$River" ∈ gtbl) {x : Int32} {len : Nat} (hx0 : ¬ x < 0) (hxl : x.toNatClampNeg = len) (hs : sh (N + 1) = (3, len)) (hlen : len ≤ 1000) (hcells : cells + 1 ≤ R.cells) (hslots : slots + len ≤ R.slots) (hdg : decode cc pc = .ok (.anewarray idx, 3))
    (kk : ∀ H1 : Heap, Wz G B (N + 1) s M H1 locs → W p l e R s m args below meth c H1 locs (cells + 1) (slots + len) Q (F0 m (pc + 3) ls (.ref (B + (N + 1)) :: rest))) : W p l e R s m args below meth c H locs cells slots Q (F0 m pc ls (.int x :: rest)) := by
  obtain ⟨hx, hb, hml, hown, hts, hK⟩ := cx
  have hsz : H.size = B + (N + 1) := by have := wz.2.1; omega
  subst hxl
  refine W.anew hx hb hown (hts _ hcl) (va_AO.use wz.2.2.2.1) rfl hdg rfl hx0 (by omega) hcells hslots fun cA kA comp f1 f2 f3 f4 => ?_
  generalize hH1 : H.push ({ cls := cA, slots := Array.replicate x.toNatClampNeg .null, vm := .none } : Cell) = H1
  have z1 : H1.size = H.size + 1 := by rw [← hH1, Array.size_push]
  have e1 : H1[H.size]? = some (arrV cA x.toNatClampNeg (fun _ => .null)) := by rw [← hH1, Array.getElem?_push_size, ← arrV_new]
  have o1 : ∀ q : Nat, q < H.size → H1[q]? = H[q]? := fun q hq => by rw [← hH1, Array.getElem?_push, if_neg (Nat.ne_of_lt hq)]
  rw [hsz]
  refine kk H1 (wo_grow wz z1 o1 ?_)
  rw [ce_3 (by rw [hs])]
  have hc : G.2.1 3 = cA := by
    obtain ⟨-, -, -, -, -, h9⟩ := (hK.2 3 _ rfl).2
    exact Option.some.inj (h9.symm.trans f1)
  have hz := wz.2.2.1 (N + 1) (by omega)
  show H1[B + (N + 1)]? = some (vp_cell (G.2.1 3) (ln (N + 1), .inr (.inr (.inr (.inr fun i => rv B (M.2.2 (N + 1) i))))))
  rw [← hsz, e1, hc, hz.2.2, show ln (N + 1) = x.toNatClampNeg by unfold ln; rw [hs]]
  rfl
theorem z_keep {v : Int32} {i : Nat} (hz : Zr N M) (ha : a ≤ N) : Zr N (sI M a i v) := hz.sI ha
/-- putfield with the heap's size -/
theorem vz_put {D : va_G} {cl : List vw_C} {tys : List (ClassId × FieldType)} {ws : va_W} {A : Nat → Prop} {H0 : Heap} {a : Nat} (hexec : p.tables.exec = Jvm.exec) (hb : c.code = cc) {own ref C : String} {T : u_T} {N ci index : Nat} {Ts : List Cond} (hts : ∀ w ∈ Ts, w.before args s = true) (hin : ∀ w ∈ u_ws C T N, w ∈ Ts) (ty0 : Nat → FieldType) (hty : ∀ k, k < N → parseFieldDescriptor (T k).2.2.1 = some (ty0 k)) (hnm : ∀ a, a < N → ∀ b, b < N → a ≠ b → (T a).2.1 ≠ (T b).2.1) (hown : s.vm.findClass own = some m.cls) (hK : va_K D cl tys s) (hP : va_P D cl ws H) (hD : va_D A ws) (hS0 : va_S A H0 H locs) (q0 : Nat) {fs : List Value} (he : ws[q0]? = some (a, .inr (ci, fs))) (hc : cl[ci]? = some (C, T, N)) (k : Nat) (hk : k < N) (hlink : (Cond.fieldLink own index ref (T k).2.1 (T k).2.2.1).before args s = true) (hsame : ∀ x, s.fieldFound? (T k).1 (T k).2.1 (T k).2.2.1 = some x → s.fieldFound? ref (T k).2.1 (T k).2.2.1 = some x) (hfin : (T k).2.2.2 = false) {ty : FieldType} {v : Value} (hd : parseFieldDescriptor (T k).2.2.1 = some ty) (hn : narrow ty v = v) (hfit : fits ty v = true) (hl : k < fs.length)
    (hdg : decode cc pc = .ok (.putfield index, 3)) (kk : ∀ (H1 : Heap) (locs1 : List Loc), va_P D cl (ws.set q0 (a, .inr (ci, fs.set k v))) H1 → va_S A H0 H1 locs1 → H1.size = H.size → W p l e R s m args below meth c H1 locs1 cells slots Q (F0 m (pc + 3) ls rest)) : W p l e R s m args below meth c H locs cells slots Q (F0 m pc ls (v :: .ref a :: rest)) := by
  have hap := va_apart (own := own) hts hin ty0 hty hnm hK hc
  obtain ⟨r, h1, cell, q1, q2, q3, q4⟩ := hP q0 _ he
  have hr : r = (C, T, N) := Option.some.inj (h1.symm.trans hc)
  subst hr
  obtain ⟨hS, hfc, kC, hkC, hkind⟩ := hK.1 ci _ hc
  obtain ⟨cf, kf, fi, f, hi, hsl⟩ := hS k hk
  have hlay := hts _ (hin _ (u_in_lay hk))
  unfold u_lay at hlay
  rw [if_neg (by rw [hfin]; decide)] at hlay
  have hst := (u_facts hfc hkC (u_lays hts hin hk) hi).1
  have h6 := u_store hfc hkC hkind hlay hi hd hn hfit
  refine W.putK hexec hb (f := f) ⟨hown, hlink, ⟨_, _, _, hsame _ hi⟩, hst⟩ (by rw [q2]; exact h6) q1 q3 (by rw [hsl]; exact k2_hasslot (q4 k hk)) rfl rfl hdg fun H' e1 e2 e3 => ?_
  rw [hsl] at e1 ⊢
  exact kk H' _ (hP.set hD he ⟨_, hc, t_OB.to (V := updV (vp_V fs) k v) ⟨_, e1, q2, q3, t_set q4 hap hk v⟩ (fun j _ => vp_updV_set hl v j)⟩ e3) (hS0.put e2 e3 (hD.2 q0 _ he)) e2
theorem vz_putF {D : va_G} {cl : List vw_C} {tys : List (ClassId × FieldType)} {ws : va_W} {A : Nat → Prop} {H0 : Heap} {a : Nat} (hexec : p.tables.exec = Jvm.exec) (hb : c.code = cc) {own ref C : String} {T : u_T} {N ci index : Nat} {Ts : List Cond} (hts : ∀ w ∈ Ts, w.before args s = true) (hin : ∀ w ∈ u_ws C T N, w ∈ Ts) (ty0 : Nat → FieldType) (hty : ∀ k, k < N → parseFieldDescriptor (T k).2.2.1 = some (ty0 k)) (hnm : ∀ a, a < N → ∀ b, b < N → a ≠ b → (T a).2.1 ≠ (T b).2.1) (hown : s.vm.findClass own = some m.cls) (hK : va_K D cl tys s) (hP : va_P D cl ws H) (hD : va_D A ws) (hS0 : va_S A H0 H locs) (q0 : Nat) {fs : List Value} (he : ws[q0]? = some (a, .inr (ci, fs))) (hc : cl[ci]? = some (C, T, N)) (k : Nat) (hk : k < N) (hlink : (Cond.fieldLink own index ref (T k).2.1 (T k).2.2.1).before args s = true) (hsame : ∀ x, s.fieldFound? (T k).1 (T k).2.1 (T k).2.2.1 = some x → s.fieldFound? ref (T k).2.1 (T k).2.2.1 = some x) (hfin : (T k).2.2.2 = true) (hin2 : meth.name = "<init>") (hdecl : (T k).1 = own) {ty : FieldType} {v : Value} (hd : parseFieldDescriptor (T k).2.2.1 = some ty) (hn : narrow ty v = v) (hfit : fits ty v = true) (hl : k < fs.length)
    (hdg : decode cc pc = .ok (.putfield index, 3)) (kk : ∀ (H1 : Heap) (locs1 : List Loc), va_P D cl (ws.set q0 (a, .inr (ci, fs.set k v))) H1 → va_S A H0 H1 locs1 → H1.size = H.size → W p l e R s m args below meth c H1 locs1 cells slots Q (F0 m (pc + 3) ls rest)) : W p l e R s m args below meth c H locs cells slots Q (F0 m pc ls (v :: .ref a :: rest)) := by
  have hap := va_apart (own := own) hts hin ty0 hty hnm hK hc
  obtain ⟨r, h1, cell, q1, q2, q3, q4⟩ := hP q0 _ he
  have hr : r = (C, T, N) := Option.some.inj (h1.symm.trans hc)
  subst hr
  obtain ⟨hS, hfc, kC, hkC, hkind⟩ := hK.1 ci _ hc
  obtain ⟨cf, kf, fi, f, hi, hsl⟩ := hS k hk
  have hlay := hts _ (hin _ (u_in_lay hk))
  unfold u_lay at hlay
  rw [if_pos hfin] at hlay
  have hst := (u_facts hfc hkC (u_lays hts hin hk) hi).1
  have hcf : m.cls = cf := by
    obtain ⟨_, _, c', _, _, _, -, -, hf', -, -, -, hown2, -⟩ := Cond.laysFinal_spec hlay
    have e1 : c' = cf := by have := hi.symm.trans hf'; simp at this; exact this.1.symm
    rw [hdecl] at hown2
    rw [← e1]; exact Option.some.inj (hown.symm.trans hown2)
  have h6 := u_fits hfc hkC hkind (Or.inr hlay) hi hd hn hfit
  refine W.putFinK hexec hb hown hlink (hsame _ hi) hst hcf hin2 (by rw [q2]; exact h6) q1 q3 (by rw [hsl]; exact k2_hasslot (q4 k hk)) rfl rfl hdg fun H' e1 e2 e3 => ?_
  rw [hsl] at e1 ⊢
  exact kk H' _ (hP.set hD he ⟨_, hc, t_OB.to (V := updV (vp_V fs) k v) ⟨_, e1, q2, q3, t_set q4 hap hk v⟩ (fun j _ => vp_updV_set hl v j)⟩ e3) (hS0.put e2 e3 (hD.2 q0 _ he)) e2
theorem z_putI (cx : Cx p s m args c cc nL own G) (wz : Wz G B N s M H locs) (h0 : a ≠ 0) (hN : a ≤ N) (hs : (sh a).1 = ci + 10) {ty : FieldType} (fp : FP own idx ci k 0 false ty) {x : Int32} (hn : narrow ty (.int x) = .int x) (hf : fits ty (.int x) = true) (hdg : decode cc pc = .ok (.putfield idx, 3))
    (kk : ∀ (H1 : Heap) (locs1 : List Loc), Wz G B N s (sI M a k x) H1 locs1 → W p l e R s m args below meth c H1 locs1 cells slots Q (F0 m (pc + 3) ls rest)) : W p l e R s m args below meth c H locs cells slots Q (F0 m pc ls (.int x :: .ref (B + a) :: rest)) := by
  obtain ⟨hx, hb, hml, hown, hts, hK⟩ := cx
  obtain ⟨C, T, n, ty0, h1, h2, h3, h4, h5, h6, h7, h8, h9⟩ := fp
  obtain ⟨wo, hsz, hZ, hA⟩ := wz
  have hk : k < (fks ci).length := (List.getElem?_eq_some_iff.mp h5).1
  refine vz_put hx hb hts h4 ty0 h6 h7 hown hK wo.1 wl_D wo.2.1 (a - 1) (by rw [wl_get h0 hN, ce_o hs]) h1 k h2 (hts _ h3) (fun _ h => h) h8 (ty := ty) (by rw [h6 k h2, h9]) hn hf (by rw [oF_len]; exact hk) hdg (fun H1 locs1 p1 s1 z1 => kk H1 locs1 ⟨⟨?_, s1, wo.2.2⟩, by omega, hZ.sI hN, hA⟩)
  rwa [wl_set h0 hN (M' := sI M a k x) (fun j h => ce_sI h) (by rw [ce_o hs, oF_setI _ h5])] at p1
theorem z_putR (cx : Cx p s m args c cc nL own G) (wz : Wz G B N s M H locs) (h0 : a ≠ 0) (hN : a ≤ N) (hs : (sh a).1 = ci + 10) {ty : FieldType} (fp : FP own idx ci k 1 false ty) {v : Nat} (hv0 : v ≠ 0) (hn : ∀ q : Nat, narrow ty (.ref q) = .ref q) (hf : ∀ q : Nat, fits ty (.ref q) = true) (hdg : decode cc pc = .ok (.putfield idx, 3))
    (kk : ∀ (H1 : Heap) (locs1 : List Loc), Wz G B N s (sR M a k v) H1 locs1 → W p l e R s m args below meth c H1 locs1 cells slots Q (F0 m (pc + 3) ls rest)) : W p l e R s m args below meth c H locs cells slots Q (F0 m pc ls (.ref (B + v) :: .ref (B + a) :: rest)) := by
  obtain ⟨hx, hb, hml, hown, hts, hK⟩ := cx
  obtain ⟨C, T, n, ty0, h1, h2, h3, h4, h5, h6, h7, h8, h9⟩ := fp
  obtain ⟨wo, hsz, hZ, hA⟩ := wz
  have hk : k < (fks ci).length := (List.getElem?_eq_some_iff.mp h5).1
  refine vz_put hx hb hts h4 ty0 h6 h7 hown hK wo.1 wl_D wo.2.1 (a - 1) (by rw [wl_get h0 hN, ce_o hs]) h1 k h2 (hts _ h3) (fun _ h => h) h8 (ty := ty) (by rw [h6 k h2, h9]) (hn _) (hf _) (by rw [oF_len]; exact hk) hdg (fun H1 locs1 p1 s1 z1 => kk H1 locs1 ⟨⟨?_, s1, wo.2.2.1, trivial, wo.2.2.2.2⟩, by omega, hZ.sR hN, hA⟩)
  rwa [wl_set h0 hN (M' := sR M a k v) (fun j h => ce_sR h) (by rw [ce_o hs, oF_setR _ h5 hv0])] at p1
theorem z_putF (cx : Cx p s m args c cc nL own G) (wz : Wz G B N s M H locs) (h0 : a ≠ 0) (hN : a ≤ N) (hs : (sh a).1 = ci + 10) {ty : FieldType} (fp : FP own idx ci k 1 true ty) (hin2 : meth.name = "<init>") (hde : ∀ (C : String) (T : u_T) (n : Nat), vwCl[ci]? = some (C, T, n) → (T k).1 = own) {v : Nat} (hv0 : v ≠ 0) (hn : ∀ q : Nat, narrow ty (.ref q) = .ref q) (hf : ∀ q : Nat, fits ty (.ref q) = true) (hdg : decode cc pc = .ok (.putfield idx, 3))
    (kk : ∀ (H1 : Heap) (locs1 : List Loc), Wz G B N s (sR M a k v) H1 locs1 → W p l e R s m args below meth c H1 locs1 cells slots Q (F0 m (pc + 3) ls rest)) : W p l e R s m args below meth c H locs cells slots Q (F0 m pc ls (.ref (B + v) :: .ref (B + a) :: rest)) := by
  obtain ⟨hx, hb, hml, hown, hts, hK⟩ := cx
  obtain ⟨C, T, n, ty0, h1, h2, h3, h4, h5, h6, h7, h8, h9⟩ := fp
  obtain ⟨wo, hsz, hZ, hA⟩ := wz
  have hk : k < (fks ci).length := (List.getElem?_eq_some_iff.mp h5).1
  refine vz_putF hx hb hts h4 ty0 h6 h7 hown hK wo.1 wl_D wo.2.1 (a - 1) (by rw [wl_get h0 hN, ce_o hs]) h1 k h2 (hts _ h3) (fun _ h => h) h8 hin2 (hde _ _ _ h1) (ty := ty) (by rw [h6 k h2, h9]) (hn _) (hf _) (by rw [oF_len]; exact hk) hdg (fun H1 locs1 p1 s1 z1 => kk H1 locs1 ⟨⟨?_, s1, wo.2.2.1, trivial, wo.2.2.2.2⟩, by omega, hZ.sR hN, hA⟩)
  rwa [wl_set h0 hN (M' := sR M a k v) (fun j h => ce_sR h) (by rw [ce_o hs, oF_setR _ h5 hv0])] at p1
theorem z_iast (cx : Cx p s m args c cc nL own G) (wz : Wz G B N s M H locs) (h0 : a ≠ 0) (hN : a ≤ N) (hs : (sh a).1 = 0) {i x : Int32} (hin : inb i (ln a) = true) (hdg : decode cc pc = .ok (.iastore, 1))
    (kk : ∀ (H1 : Heap) (locs1 : List Loc), Wz G B N s (sI M a (ix i) x) H1 locs1 → W p l e R s m args below meth c H1 locs1 cells slots Q (F0 m (pc + 1) ls rest)) : W p l e R s m args below meth c H locs cells slots Q (F0 m pc ls (.int x :: .int i :: .ref (B + a) :: rest)) := by
  obtain ⟨hx, hb, hml, hown, hts, hK⟩ := cx
  obtain ⟨wo, hsz, hZ, hA⟩ := wz
  have ha : (wl G B N M)[a - 1]? = some (B + a, .inl (G.2.1 0, ln a, .inl (M.1 a))) := by rw [wl_get h0 hN, ce_0 hs]
  refine W.iast hx hb (wo.1 (a - 1) _ ha) ((hK.2 0 _ rfl).1 (ln a) (fun j => .int (M.1 a j))) (fun q => by cases q) (by show ¬ (i < 0 ∨ (arrV _ _ _).slots.size ≤ _); rw [arrV_size]; exact inb_vp hin) rfl rfl hdg fun H1 e z oq => ?_
  refine kk H1 _ ⟨⟨?_, wo.2.1.put z oq (by show B < B + a; omega), wo.2.2⟩, by omega, hZ.sI hN, hA⟩
  rw [← wl_set h0 hN (M := M) (M' := sI M a (ix i) x) (fun j h => ce_sI h) rfl]
  refine wo.1.set wl_D ha ?_ oq
  rw [ce_0 hs]
  show H1[B + a]? = some (vp_cell _ _)
  rw [e, vp_cell_i, vp_cell_i, arrV_store]
  congr 2
  funext q
  by_cases hq : q = i.toNatClampNeg
  · subst hq
    simp [updV, sI, up2, ix]
  · simp [updV, sI, up2, ix, hq]
theorem z_aast (cx : Cx p s m args c cc nL own G) (wz : Wz G B N s M H locs) (h0 : a ≠ 0) (hN : a ≤ N) (hs : (sh a).1 = 3) {i : Int32} {v : Nat} (hin : inb i (ln a) = true) (hv0 : v ≠ 0) (hvN : v ≤ N) (hvs : (sh v).1 = 4 + 10) (hdg : decode cc pc = .ok (.aastore, 1))
    (kk : ∀ (H1 : Heap) (locs1 : List Loc), Wz G B N s (sR M a (ix i) v) H1 locs1 → W p l e R s m args below meth c H1 locs1 cells slots Q (F0 m (pc + 1) ls rest)) : W p l e R s m args below meth c H locs cells slots Q (F0 m pc ls (.ref (B + v) :: .int i :: .ref (B + a) :: rest)) := by
  obtain ⟨hx, hb, hml, hown, hts, hK⟩ := cx
  obtain ⟨wo, hsz, hZ, hA⟩ := wz
  have hi := inb_vp hin
  have hlt : i.toNatClampNeg < ln a := Nat.not_le.mp fun q => hi (Or.inr q)
  have hi0 : ¬ i < 0 := fun q => hi (Or.inl q)
  have ha : (wl G B N M)[a - 1]? = some (B + a, .inl (G.2.1 3, ln a, .inr (.inr (.inr (.inr fun i => rv B (M.2.2 a i)))))) := by rw [wl_get h0 hN, ce_3 hs]
  obtain ⟨r', hr', cellV, g1, g2, g3, -⟩ := wo.1 (v - 1) (B + v, .inr (4, oF B M v 0 (fks 4))) (by rw [wl_get hv0 hvN, ce_o hvs])
  have hcls := (hK.1 4 (RX4, TX4, 9) rfl).2
  obtain ⟨kA, comp, k1, k2, k3, -⟩ := (hK.2 3 (G.2.1 3, .object "BumpsRiver$River") rfl).2
  have hcomp : comp = G.1.1 4 := Option.some.inj (k3.symm.trans hcls.1)
  subst hcomp
  obtain ⟨kC, hkC, -⟩ := hcls.2
  refine W.aast hx hb (wo.1 (a - 1) _ ha) (fun q h => by cases h) (fun h => by cases h) k1 k2 rfl hkC ⟨hi0, by show _ < (arrV _ _ _).slots.size; rw [arrV_size]; exact hlt⟩ g1 (fun q h => by rw [g3] at h; cases h) (by rw [g2]; exact hkC) (by rw [g2]; exact va_assign hcls) rfl rfl hdg fun H1 e z oq => ?_
  refine kk H1 _ ⟨⟨?_, wo.2.1.put z oq (by show B < B + a; omega), wo.2.2.1, trivial, wo.2.2.2.2⟩, by omega, hZ.sR hN, hA⟩
  rw [← wl_set h0 hN (M := M) (M' := sR M a (ix i) v) (fun j h => ce_sR h) rfl]
  refine wo.1.set wl_D ha ?_ oq
  rw [ce_3 hs]
  show H1[B + a]? = some (vp_cell _ _)
  rw [e, vp_cell_q, vp_cell_q, arrV_store]
  congr 2
  funext q
  by_cases hq : q = i.toNatClampNeg
  · subst hq
    simp [updV, sR, up2, ix, rv_pos hv0, va_rf]
  · simp [updV, sR, up2, ix, hq]
theorem z_objInit (cx : Cx p s m args c cc nL own G) (hls : ls.size = nL) (hlink : Cond.methodLink own idx Lib.objectInit ∈ gtbl) (hin : Cond.instanceMethod Lib.objectInit ∈ gtbl) (hco : Cond.code Lib.objectInit ⟨#[0xb1]⟩ 1 none ∈ gtbl) (hrest : (rest.map fun v => v.category).sum ≤ 8) (hR : 1 ≤ R.frames ∧ 64 ≤ R.locals) (hdg : decode cc pc = .ok (.invokespecial idx, 3))
    (kk : W p l e R s m args below meth c H locs cells slots Q (F0 m (pc + 3) ls rest)) : W p l e R s m args below meth c H locs cells slots Q (F0 m pc ls (.ref a :: rest)) :=
  W.objInit cx.1 cx.2.1 cx.2.2.2.1 (cx.2.2.2.2.1 _ hlink) (cx.2.2.2.2.1 _ hin) (cx.2.2.2.2.1 _ hco) rfl (by show ls.size = c.maxLocals; rw [hls, cx.2.2.1]) rfl hdg hR.1 (by have := lv_room (m := m) (pc := pc) (ls := ls) (rest := .ref a :: rest) hrest; omega) kk
def CI (own : String) (idx : Nat) (y : MethodName) (bytes : ByteArray) (maxL : Nat) (n : Nat) : Prop :=
  Cond.methodLink own idx y ∈ gtbl ∧ Cond.instanceMethod y ∈ gtbl ∧ y.name = "<init>" ∧ Cond.initialized y.cls ∈ gtbl ∧ Cond.code y bytes maxL none ∈ gtbl ∧ (y.cls ≠ "java/lang/invoke/MethodHandle" ∧ y.cls ≠ "java/lang/invoke/VarHandle" ∧ (parseMethodDescriptor y.desc).map (fun d => d.parameters.length) = some n) ∧ maxL ≤ 45
theorem blind_Z {av : List Value} : FrameBlind (PcZ G B N M av) := by
  intro a U g mk q
  obtain ⟨q0, ⟨qP, qK, qF, qE⟩, qB, qZ, qA⟩ := q
  exact ⟨q0, ⟨qP, va_K.moved (u := U) (U := U.calling g mk a) (Vm.Alike.refl U.vm) qK, qF, ex_call g mk a qE⟩, qB, qZ, qA.moved (Vm.Alike.refl U.vm)⟩
theorem z_init {N' mc ms : Nat} (cx : Cx p s m args c cc nL own G) (wz : Wz G B N s M H locs) (hM : Met l y (wsG y bytes maxL none) (rmZ k mc ms) (PcZ G B N M (.ref (B + a) :: As)) (QcZ G B N' M') mc ms (fr B)) (ci : CI own idx y bytes maxL n) (hn : As.length = n) (hls : ls.size = nL) (hst : st = As.reverse ++ .ref (B + a) :: rest) (hrest : (rest.map fun v => v.category).sum ≤ 8) (hR : k + 1 ≤ R.frames ∧ 64 * (k + 1) ≤ R.locals ∧ cells + mc ≤ R.cells ∧ slots + ms ≤ R.slots) (hdg : decode cc pc = .ok (.invokespecial idx, 3))
    (kk : ∀ (H1 : Heap) (locs1 : List Loc), Wz G B N' s M' H1 locs1 → W p l e R s m args below meth c H1 locs1 (cells + mc) (slots + ms) Q (F0 m (pc + 3) ls rest)) : W p l e R s m args below meth c H locs cells slots Q (F0 m pc ls st) := by
  obtain ⟨hx, hb, hml, hown, hts, hK⟩ := cx
  obtain ⟨c1, c2, c3, c4, c5, c6, c7⟩ := ci
  obtain ⟨wo, hsz, hZ, hA⟩ := wz
  refine va_callv (va_runI (own := own) (index := idx) (y := y) (bytes := bytes) (maxL := maxL) (n := n) (As := As) (rest := rest) (b := B + a) ⟨hx, hb, hml, hown, hts⟩ hM ⟨callB_of n hts (goodIn_g c5) rfl rfl rfl (hts _ c4) (hts _ c1) c6 ⟨hR.1, by have := hR.2.1; show 8 + (maxL + 11) + 64 * k ≤ R.locals; omega⟩, c3, hts _ c2⟩ ⟨blind_Z, fun U hU hW => ⟨rfl, ⟨by rw [hU]; exact wo.1, va_K.moved hW.alike hK, trivial, ex_go wo.2.2.2.2 wo.2.1 hU hW⟩, by rw [hU]; exact hsz, hZ, hA.moved hW.alike⟩⟩ rfl hn hls hst (lv_room hrest) hdg ⟨hR.2.2.1, hR.2.2.2⟩) wo.2.1 (fun q _ h => h) (fun q h => h) (fun u t H1 locs1 ht hvm hw hB hz hk hS => kk H1 locs1 ⟨⟨by rw [← ht]; exact hB.1.1, hS, wo.2.2.1, trivial, wo.2.2.2.2⟩, by rw [← ht]; exact hB.2.1, hB.2.2, hA⟩)
theorem z_vret (cx : Cx p s m args c cc nL own G) (wz : Wz G B N s M H locs) (hr : meth.sig.returnType = none) (hlk : meth.locks = false) (hdg : decode cc pc = .ok (.return_, 1)) : W p l e R s m args below meth c H locs cells slots (MQ below (QcZ G B N M) args s cells slots (fr B)) (F0 m pc ls []) :=
  W.vret cx.1 cx.2.1 hr (fun t ht hW => ⟨⟨(), rfl, trivial, wo_BW cx wz.1 ht hW, by rw [ht]; exact wz.2.1, wz.2.2.1⟩, wz.1.2.1.F ht⟩) wz.1.2.1.2.2 hdg
theorem mk_MetZ {mc ms : Nat} {av : List Value} {Qc : Array Value → State → Outcome → State → Prop} (hy : plainName y.cls = true) (ho : y.cls = own) (hlen : (lg_sl av).length ≤ maxL)
    (body : ∀ (p : Program) (e : Env) (s : State) (m : MethodId) (below : List Frame) (meth : Method) (c : Code) (ls : Array Slot), Cx p s m av.toArray c bytes maxL own G → meth.sig.returnType = none → meth.locks = false → meth.name = y.name → Wz G B N s M s.heap [] → lv_has ls maxL (lv_args 0 av) → W p l e (rmZ k mc ms) s m av.toArray below meth c s.heap [] 0 0 (MQ below Qc av.toArray s mc ms (fr B)) (F0 m 0 ls [])) :
    Met l y (wsG y bytes maxL none) (rmZ k mc ms) (PcZ G B N M av) Qc mc ms (fr B) := by
  refine Met.ofW (cc := bytes) (maxL := maxL) (ret := none) hy rfl ?_
  intro p e s m args below meth c s₁ B' hml hv
  obtain ⟨rfl, ⟨hP, hK, hF, hE⟩, hB, hZ, hA⟩ := hv
  have hx := B'.exec
  have hb := B'.bytes
  have hr := B'.returns
  have hts := wsG_ok (atoms_spec (ws := wsG y bytes maxL none) B'.pre)
  have hown : s.vm.findClass own = some m.cls := by rw [← ho]; exact findClass_of_methodNamed B'.named
  have hlocks := B'.notSynchronized
  have hnm : meth.name = y.name := (name_of_methodNamed B'.named B'.method).1
  have hl := lv_entry av (n := maxL) hlen
  rw [lg_entry_eq]
  exact body p e s m below meth c _ ⟨hx, hb, hml, hown, hts, hK⟩ hr hlocks hnm ⟨⟨hP, va_S.rf, by omega, hF, hE⟩, hB, hZ, hA⟩ hl
theorem z_Vv {N' : Nat} {ret : Option FieldType} (cx : Cx p s m args c cc nL own G) (wz : Wz G B N s M H locs) (hM : Met l y (wsG y bytes maxL ret) (rmZ k 0 0) (PcZ G B N M (.ref (B + a) :: As)) (QcZ G B N' M') 0 0 (fr B)) (cv : CV own idx y bytes maxL ret n) (hn : As.length = n) (h0 : a ≠ 0) (hN : a ≤ N) (hs : (sh a).1 = ci + 10) {q : vw_C} (hc : vwCl[ci]? = some q) (hq : q.1 = y.cls) (hls : ls.size = nL) (hst : st = As.reverse ++ .ref (B + a) :: rest) (hrest : (rest.map fun v => v.category).sum ≤ 8) (hR : k + 1 ≤ R.frames ∧ 64 * (k + 1) ≤ R.locals ∧ cells ≤ R.cells ∧ slots ≤ R.slots) (hdg : decode cc pc = .ok (.invokevirtual idx, 3))
    (kk : ∀ (H1 : Heap) (locs1 : List Loc), Wz G B N' s M' H1 locs1 → W p l e R s m args below meth c H1 locs1 cells slots Q (F0 m (pc + 3) ls rest)) : W p l e R s m args below meth c H locs cells slots Q (F0 m pc ls st) := by
  obtain ⟨hx, hb, hml, hown, hts, hK⟩ := cx
  obtain ⟨c1, c2, c3, c4, c5, c6, c7⟩ := cv
  obtain ⟨wo, hsz, hZ, hA⟩ := wz
  refine va_callv (va_runV (own := own) (C := y.cls) (index := idx) (y := y) (bytes := bytes) (maxL := maxL) (ret := ret) (n := n) (As := As) (rest := rest) (b := B + a) ⟨hx, hb, hml, hown, hts⟩ hM ?_ ⟨blind_Z, ?_, fun U hU hW => ⟨rfl, ⟨by rw [hU]; exact wo.1, va_K.moved hW.alike hK, trivial, ex_go wo.2.2.2.2 wo.2.1 hU hW⟩, by rw [hU]; exact hsz, hZ, hA.moved hW.alike⟩⟩ rfl hn hls hst (lv_room hrest) hdg ⟨hR.2.2.1, hR.2.2.2⟩) wo.2.1 (fun q _ h => h) (fun q h => h) (fun u t H1 locs1 ht hvm hw hB hz hk hS => kk H1 locs1 ⟨⟨by rw [← ht]; exact hB.1.1, hS, wo.2.2.1, trivial, wo.2.2.2.2⟩, by rw [← ht]; exact hB.2.1, hB.2.2, hA⟩)
  · exact ⟨callB_of n hts (goodIn_g c5) rfl rfl rfl (hts _ c4) (hts _ c1) c6 ⟨hR.1, by have := hR.2.1; show 8 + (maxL + 11) + 64 * k ≤ R.locals; omega⟩, hts _ c2, hts _ c3⟩
  · obtain ⟨cell, g1, g2, g3⟩ := va_recv hK wo.1 hc (q0 := a - 1) (by rw [wl_get h0 hN, ce_o hs])
    exact ⟨cell, g1, g2, by rw [← hq]; exact g3⟩
end Make
/-! new int[n][k]: the outer row, then the inner ones -/
def mzO (c : ClassId) (n h0 i : Nat) : Cell := arrV c n (fun j => if j < i then .ref (h0 + 1 + j) else .null)
def mzI (c : ClassId) (k : Nat) : Cell := arrV c k (fun _ => .int 0)
def mzF (s : State) (c comp : ClassId) (n k : Nat) : Nat → State
  | 0 => s.pushCell (mzO c n s.heap.size 0)
  | i + 1 => ((mzF s c comp n k i).pushCell (mzI comp k)).setCell s.heap.size (mzO c n s.heap.size (i + 1))
theorem mzO_size (c : ClassId) (n h0 i : Nat) : (mzO c n h0 i).slots.size = n := arrV_size _ _ _
theorem mzI_size (c : ClassId) (k : Nat) : (mzI c k).slots.size = k := arrV_size _ _ _
theorem mzO_step (c : ClassId) (n h0 i : Nat) : (mzO c n h0 i).setSlot i (.ref (h0 + 1 + i)) = mzO c n h0 (i + 1) := by
  unfold mzO
  rw [arrV_store]
  refine congrArg (arrV c n) (funext fun j => ?_)
  by_cases e : j = i
  · subst e; simp [updV]
  · by_cases h : j < i
    · simp [updV, e, h, Nat.lt_succ_of_lt h]
    · simp [updV, e, h, show ¬ j < i + 1 by omega]
theorem mzF_facts (s : State) (c comp : ClassId) (n k : Nat) : ∀ i, (mzF s c comp n k i).heap.size = s.heap.size + 1 + i ∧ (mzF s c comp n k i).heap[s.heap.size]? = some (mzO c n s.heap.size i) ∧ (mzF s c comp n k i).vm = s.vm ∧ (mzF s c comp n k i).slotsUsed = s.slotsUsed + n + i * k
  | 0 => ⟨by simp [mzF], by simp [mzF], rfl, by simp [mzF, mzO_size]⟩
  | i + 1 => by
    obtain ⟨f1, f2, f3, f4⟩ := mzF_facts s c comp n k i
    have hl : s.heap.size < (mzF s c comp n k i).heap.size := by omega
    have hc : ((mzF s c comp n k i).pushCell (mzI comp k)).heap[s.heap.size]? = some (mzO c n s.heap.size i) := by rw [State.heap_pushCell_of_lt (h := hl)]; exact f2
    refine ⟨?_, State.heap_setCell_self hc, by simp [mzF, f3], ?_⟩
    · simp [mzF, State.setCell, f1]; omega
    · simp [mzF, f4, mzI_size, Nat.succ_mul]; omega
theorem mzF_top (s : State) (f : JFrame) (c comp : ClassId) (n k : Nat) : ∀ i, mzF (s.setTop f) c comp n k i = (mzF s c comp n k i).setTop f
  | 0 => rfl
  | i + 1 => by simp only [mzF, mzF_top s f c comp n k i, State.heap_setTop, State.pushCell_setTop, State.setCell_setTop]
theorem mzF_row (s : State) (c comp : ClassId) (n k a : Nat) (ha : a ≠ s.heap.size) : ∀ i, a < s.heap.size + 1 + i → (mzF s c comp n k (i + 1)).heap[a]? = (mzF s c comp n k i).heap[a]? := by
  intro i hi
  have f1 := (mzF_facts s c comp n k i).1
  show (((mzF s c comp n k i).pushCell (mzI comp k)).setCell s.heap.size _).heap[a]? = _
  have hl : a < (mzF s c comp n k i).heap.size := by omega
  rw [heapAt_setCell_ne _ (Ne.symm ha), State.heap_pushCell_of_lt (h := hl)]
theorem mzF_old (s : State) (c comp : ClassId) (n k a : Nat) (ha : a < s.heap.size) : ∀ i, (mzF s c comp n k i).heap[a]? = s.heap[a]?
  | 0 => State.heap_pushCell_of_lt _ _ ha
  | i + 1 => by rw [mzF_row s c comp n k a (by omega) i (by omega)]; exact mzF_old s c comp n k a ha i
theorem mzF_inner (s : State) (c comp : ClassId) (n k : Nat) : ∀ i j, j < i → (mzF s c comp n k i).heap[s.heap.size + 1 + j]? = some (mzI comp k)
  | 0, j, h => absurd h (Nat.not_lt_zero _)
  | i + 1, j, h => by
    by_cases e : j < i
    · rw [mzF_row s c comp n k _ (by omega) i (by omega)]
      exact mzF_inner s c comp n k i j e
    · have e2 : j = i := by omega
      subst e2
      have f1 := (mzF_facts s c comp n k j).1
      show (((mzF s c comp n k j).pushCell (mzI comp k)).setCell s.heap.size _).heap[_]? = _
      have hne : s.heap.size ≠ s.heap.size + 1 + j := by omega
      rw [heapAt_setCell_ne _ hne, ← f1]
      exact State.heap_pushCell_size _ _
section Multi
variable {E : CtlPost} {e : Env} {d : Bool} {acts : List Action} {s : State}
/-- one array of defaults -/
theorem mz_one {c comp : ClassId} {kc : Class} {type : FieldType} {len : Nat} {v : Value} (hk : s.vm.classes[c]? = some kc) (hkind : kc.kind = .array comp type) (hlimit : ¬ len > e.platform.arrayLengthLimit) (hheap : ¬ len * componentBytes type > e.platform.maxHeapBytes) (hfit : fits type v = true) (hdef : v.isDefault = true)
    (h1 : s.heap.size < e.platform.maxCells) (h2 : s.slotsUsed + len ≤ e.platform.maxSlots) {Q : Addr → Pre} (hq : Q s.heap.size d acts (s.pushCell (arrV c len (fun _ => v)))) : wp (Jvm.newArray c len v) Q E e d acts s := by
  have hf : ∀ (i : Nat) (z : Value), (Array.replicate len v)[i]? = some z → s.fitsSlot c .none i z = true := by
    intro i z hz
    rw [Array.getElem?_replicate] at hz
    split at hz
    · cases hz; simp [State.fitsSlot, State.slotType?, hk, hkind, hfit]
    · cases hz
  have ha : allocActs (Array.replicate len v) s.heap.size acts = acts := by
    have hall : ((Array.replicate len v).all (·.isDefault)) = true := by
      rw [Array.all_replicate]; split <;> simp [hdef]
    unfold allocActs
    rw [if_pos hall]
  simp only [Jvm.newArray, Jvm.arrayFits, wp_bind', W.ask, W.ite, hlimit, if_false, wp_pure', W.theClass, hk, hkind, hheap, W.alloc, W.stop, Option.some.injEq, exists_eq_left', Array.size_replicate, ha]
  rw [if_neg (by omega)]
  refine ⟨h1, h2, hf, ?_⟩
  rw [arrV_new]
  exact hq
theorem mz_row {comp cc : ClassId} {kc : Class} {k : Int32} (hkc : s.vm.classes[comp]? = some kc) (hkind : kc.kind = .array cc .int) (hk0 : ¬ k < 0) (hl : ¬ k.toNatClampNeg > e.platform.arrayLengthLimit) (hh : ¬ k.toNatClampNeg * componentBytes .int > e.platform.maxHeapBytes)
    (h1 : s.heap.size < e.platform.maxCells) (h2 : s.slotsUsed + k.toNatClampNeg ≤ e.platform.maxSlots) {Q : Addr → Pre} (hq : Q s.heap.size d acts (s.pushCell (mzI comp k.toNatClampNeg))) : wp (multianewarray.make comp [k]) Q E e d acts s := by
  rw [multianewarray.make]
  simp only [wp_bind', W.ite, hk0, if_false, wp_pure', W.theClass, hkc, hkind, Option.some.injEq, exists_eq_left']
  exact mz_one hkc hkind hl hh rfl rfl h1 h2 hq
theorem mz_both {c comp cc : ClassId} {kA kc : Class} {n k : Int32} (hkA : s.vm.classes[c]? = some kA) (hkindA : kA.kind = .array comp (.array .int)) (hkc : s.vm.classes[comp]? = some kc) (hkind : kc.kind = .array cc .int) (hn0 : ¬ n < 0) (hk0 : ¬ k < 0)
    (hl1 : ¬ n.toNatClampNeg > e.platform.arrayLengthLimit) (hh1 : ¬ n.toNatClampNeg * componentBytes (.array .int) > e.platform.maxHeapBytes) (hl2 : ¬ k.toNatClampNeg > e.platform.arrayLengthLimit) (hh2 : ¬ k.toNatClampNeg * componentBytes .int > e.platform.maxHeapBytes)
    (hc : s.heap.size + 1 + n.toNatClampNeg ≤ e.platform.maxCells) (hs : s.slotsUsed + n.toNatClampNeg + n.toNatClampNeg * k.toNatClampNeg ≤ e.platform.maxSlots)
    {Q : Addr → Pre} (hq : ∀ d' acts', Q s.heap.size d' acts' (mzF s c comp n.toNatClampNeg k.toNatClampNeg n.toNatClampNeg)) : wp (multianewarray.make c [n, k]) Q E e d acts s := by
  have hfind : ([k].find? (· < 0)) = none := by simp [hk0]
  rw [multianewarray.make]
  simp only [wp_bind', W.ite, hn0, if_false, wp_pure', W.theClass, hkA, hkindA, Option.some.injEq, exists_eq_left']
  refine mz_one hkA hkindA hl1 hh1 rfl rfl (by omega) (by have := Nat.zero_le (n.toNatClampNeg * k.toNatClampNeg); omega) ?_
  simp only [hfind]
  rw [ite_self, wp_bind', Std.Legacy.Range.forIn_eq_forIn_range']
  have hsz : ([:n.toNatClampNeg] : Std.Legacy.Range).size = n.toNatClampNeg := by simp [Std.Legacy.Range.size]
  rw [hsz]
  show wp (forIn (List.range' 0 n.toNatClampNeg 1) PUnit.unit _) _ E e d acts _
  have h00 : s.pushCell (arrV c n.toNatClampNeg (fun _ => Value.null)) = mzF s c comp n.toNatClampNeg k.toNatClampNeg 0 := by simp [mzF, mzO]
  refine wp_forIn_inv (fun rest s' => ∃ i, i ≤ n.toNatClampNeg ∧ rest = List.range' i (n.toNatClampNeg - i) ∧ s' = mzF s c comp n.toNatClampNeg k.toNatClampNeg i) _ _ ⟨0, Nat.zero_le _, rfl, h00⟩ ?_ ?_
  · rintro x rest s' d' acts' Q' ⟨i, hi, hl, rfl⟩ hnext
    have hlt : i < n.toNatClampNeg := by
      rcases Nat.lt_or_ge i n.toNatClampNeg with h | h
      · exact h
      · rw [show n.toNatClampNeg - i = 0 by omega] at hl; simp at hl
    obtain ⟨rfl, hrest⟩ : x = i ∧ rest = List.range' (i + 1) (n.toNatClampNeg - (i + 1)) := by
      rw [show n.toNatClampNeg - i = (n.toNatClampNeg - (i + 1)) + 1 by omega, List.range'_succ] at hl
      exact ⟨(List.cons.inj hl).1, (List.cons.inj hl).2⟩
    obtain ⟨f1, f2, f3, f4⟩ := mzF_facts s c comp n.toNatClampNeg k.toNatClampNeg x
    have hmul : x * k.toNatClampNeg + k.toNatClampNeg ≤ n.toNatClampNeg * k.toNatClampNeg := by
      have := Nat.mul_le_mul_right k.toNatClampNeg (show x + 1 ≤ n.toNatClampNeg from hlt)
      rw [Nat.succ_mul] at this; exact this
    simp only [wp_bind']
    refine mz_row (by rw [f3]; exact hkc) hkind hk0 hl2 hh2 (by rw [f1]; omega) (by rw [f4]; omega) ?_
    have hlt0 : s.heap.size < (mzF s c comp n.toNatClampNeg k.toNatClampNeg x).heap.size := by rw [f1]; omega
    simp only [wp_bind', W.writeLoc, wp_pure']
    refine ⟨mzO c n.toNatClampNeg s.heap.size x, by rw [State.heap_pushCell_of_lt (h := hlt0)]; exact f2, by simp [mzO, arrV], by rw [mzO_size]; exact hlt, ?_, hnext _ _ _ ⟨x + 1, hlt, hrest, ?_⟩⟩
    · simp [State.fitsSlot, State.slotType?, f3, hkA, hkindA, mzO, arrV, fits]
    · rw [f1, mzO_step]; rfl
  · rintro s' d' acts' ⟨i, hi, hl, rfl⟩
    have hiN : i = n.toNatClampNeg := by
      rcases Nat.lt_or_ge i n.toNatClampNeg with h | h
      · rw [show n.toNatClampNeg - i = (n.toNatClampNeg - (i + 1)) + 1 by omega, List.range'_succ] at hl; cases hl
      · omega
    subst hiN
    simp only [wp_pure']
    exact hq _ _
end Multi
section MultiS
variable {p : Program} {l : Launch} {e : Env} {R : Room} {s : State} {m : MethodId} {args : Array Value} {below : List Frame} {meth : Method} {c : Code} {T : State} {locs : List Loc} {cells slots : Nat}
theorem mz_stand (X : Stand p l e R s m args below meth c T locs cells slots) (cA comp : ClassId) (n k : Nat) :
    ∀ i, Stand p l e R s m args below meth c (mzF T cA comp n k i) (locs ++ (List.range i).map fun j => ⟨T.heap.size, j⟩) (cells + 1 + i) (slots + n + i * k)
  | 0 => by
    have h := X.pushed (mzO cA n T.heap.size 0)
    rw [mzO_size] at h
    simpa [mzF] using h
  | i + 1 => by
    have Xi := mz_stand X cA comp n k i
    obtain ⟨f1, f2, f3, f4⟩ := mzF_facts T cA comp n k i
    have hcell : ((mzF T cA comp n k i).pushCell (mzI comp k)).heap[T.heap.size]? = some (mzO cA n T.heap.size i) := by
      have hl : T.heap.size < (mzF T cA comp n k i).heap.size := by omega
      rw [State.heap_pushCell_of_lt (h := hl)]; exact f2
    have h := (Xi.pushed (mzI comp k)).stored hcell i (.ref (T.heap.size + 1 + i))
    rw [mzI_size, mzO_step] at h
    have e2 : (locs ++ (List.range (i + 1)).map fun j => (⟨T.heap.size, j⟩ : Loc)) = (locs ++ (List.range i).map fun j => (⟨T.heap.size, j⟩ : Loc)) ++ [⟨T.heap.size, i⟩] := by simp [List.range_succ, List.append_assoc]
    have e3 : slots + n + (i + 1) * k = slots + n + i * k + k := by rw [Nat.succ_mul]; omega
    rw [e2, e3]
    exact h
theorem mz_step (X : Stand p l e R s m args below meth c T locs cells slots) (hexec : p.tables.exec = Jvm.exec) {own : String} {index : Nat} (hown : s.vm.findClass own = some m.cls) (hclink : (Cond.classLink own index "[[I").before args s = true) (harr : (Cond.arrayClass .int).before args s = true) (hA : AO s)
    {g : JFrame} (hg : g.method = m) (hdg : decode c.code g.pc = .ok (.multianewarray index 2, 4)) {n k : Int32} {rest : List Value} (hstack : g.stack = .int k :: .int n :: rest) (hn : ¬ n < 0) (hk : ¬ k < 0) (hb1 : n.toNatClampNeg ≤ 1000) (hb2 : k.toNatClampNeg ≤ 1000)
    (hcells : cells + (1 + n.toNatClampNeg) ≤ R.cells) (hslots : slots + (n.toNatClampNeg + n.toNatClampNeg * k.toNatClampNeg) ≤ R.slots) :
    ∃ (vm₁ : Vm) (cA comp : ClassId), s.vm.findClass "[[I" = some cA ∧ s.vm.findClass "[I" = some comp ∧ Stand p l e R s m args below meth c (mzF (T.setVm vm₁) cA comp n.toNatClampNeg k.toNatClampNeg n.toNatClampNeg) locs (cells + 1 + n.toNatClampNeg) (slots + n.toNatClampNeg + n.toNatClampNeg * k.toNatClampNeg) ∧
      ∀ target, Steps p.tables e below ((mzF (T.setVm vm₁) cA comp n.toNatClampNeg k.toNatClampNeg n.toNatClampNeg).setTop { g with pc := g.pc + 4, stack := .ref T.heap.size :: rest }) target → Steps p.tables e below (T.setTop g) target := by
  subst hg
  have hpl : e.platform.magicAccessors = ({} : Platform).magicAccessors := by rw [X.admits.platform]
  obtain ⟨-, comp, cA, kA, hcomp, hkA, hkindA, hnameA⟩ := hA
  obtain ⟨comp', kC, cc, hcomp', hkC, hkindC⟩ := Cond.arrayClass_spec harr
  have ecomp : comp' = comp := Option.some.inj (hcomp'.symm.trans hcomp)
  subst ecomp
  obtain ⟨c0, hfc0, hcl⟩ := Cond.classLink_spec hown hclink e.platform hpl
  cases hnameA.symm.trans hfc0
  obtain ⟨hg₁, hwarm₁, hready₁⟩ := State.classEntry (e := e) X.warmed hcl
  generalize T.vm.noted g.method.cls index (.cls cA) = vm₁ at hg₁ hwarm₁ hready₁
  have hal : s.vm.Alike vm₁ := hwarm₁.alike
  obtain ⟨kA₁, hkA₁, heA⟩ := hal.2.2 _ _ hkA
  obtain ⟨kC₁, hkC₁, heC⟩ := hal.2.2 _ _ hkC
  have hkindA₁ : kA₁.kind = .array comp' (.array .int) := by rw [heA]; exact hkindA
  have hkindC₁ : kC₁.kind = .array cc .int := by rw [heC]; exact hkindC
  have X₁ := X.noted hwarm₁
  obtain ⟨hr1, hr2⟩ := X.roomAbove hcells hslots
  have XF := mz_stand X₁ cA comp' n.toNatClampNeg k.toNatClampNeg n.toNatClampNeg
  refine ⟨vm₁, cA, comp', hnameA, hcomp, XF.dropFresh (fun x hx => ?_), fun target hrest => ?_⟩
  · obtain ⟨j, -, rfl⟩ := List.mem_map.mp hx
    exact X.heapGrown
  have hl1 : ¬ n.toNatClampNeg > e.platform.arrayLengthLimit := by rw [Launch.admits_arrayLengthLimit X.admits]; omega
  have hh1 : ¬ n.toNatClampNeg * componentBytes (.array .int) > e.platform.maxHeapBytes := by
    rw [Launch.admits_maxHeapBytes X.admits]; show ¬ n.toNatClampNeg * 4 > 536870912; omega
  have hl2 : ¬ k.toNatClampNeg > e.platform.arrayLengthLimit := by rw [Launch.admits_arrayLengthLimit X.admits]; omega
  have hh2 : ¬ k.toNatClampNeg * componentBytes .int > e.platform.maxHeapBytes := by
    rw [Launch.admits_maxHeapBytes X.admits]; show ¬ k.toNatClampNeg * 4 > 536870912; omega
  jvm_step X.here [hexec, hdg]
  simp only [multianewarray.sem, wp_bind', W.resolveClassAt_links (State.method?_setTop g X.here.top) hg₁]
  rw [W.popN, if_neg (by decide)]
  refine ⟨g, State.topJava?_setTop' (s := T.setVm vm₁) g X.here.top, [.int n, .int k], rest, rfl, hstack, ?_⟩
  simp only [List.mapM_cons, List.mapM_nil, wp_bind', wp_pure']
  refine mz_both (kA := kA₁) (kc := kC₁) (comp := comp') (cc := cc) hkA₁ hkindA₁ hkC₁ hkindC₁ hn hk hl1 hh1 hl2 hh2 (by show T.heap.size + 1 + _ ≤ _; omega) (by show T.slotsUsed + _ + _ ≤ _; omega) (fun d' acts' => ?_)
  have eS : ((T.setTop g).setVm vm₁).setTop { g with stack := rest } = (T.setVm vm₁).setTop { g with stack := rest } := by
    show ((T.setVm vm₁).setTop g).setTop _ = _
    rw [State.setTop_setTop]
  rw [eS, mzF_top]
  simp only [wp_bind', W.mark, W.pushRef, State.topJava?_setTop' _ XF.here.top, Option.some.injEq, exists_eq_left', State.setTop_setTop, State.heap_setTop]
  intro acts
  simp [jvm, XF.here.top]
  exact hrest
end MultiS
def zMul (M : Mem) (a : Nat) : Mem := (M.1, M.2.1, fun b => if b = a then (fun j => if j < 20 then a + 1 + j else 0) else M.2.2 b)
theorem zMul_row {M : Mem} {a b : Nat} (h : b ≠ a) : (zMul M a).2.2 b = M.2.2 b := by simp [zMul, h]
section MultiW
variable {p : Program} {l : Launch} {e : Env} {R : Room} {s : State} {m : MethodId} {args : Array Value} {below : List Frame} {meth : Method} {c : Code} {H : Heap} {locs : List Loc} {cells slots : Nat} {Q : State → Prop} {cc : ByteArray} {pc nL : Nat} {ls : Array Slot} {rest st : List Value} {own : String} {G : GG} {B N : Nat} {M M' : Mem} {a ci k idx n : Nat}
theorem z_mul (cx : Cx p s m args c cc nL own G) (wz : Wz G B N s M H locs) (ha : a = N + 1) (hcl : Cond.classLink own idx "[[I" ∈ gtbl) (hac : Cond.arrayClass .int ∈ gtbl) (hs : sh a = (4, 20)) (hs2 : ∀ j, j < 20 → sh (a + 1 + j) = (0, 6)) (hcells : cells + 21 ≤ R.cells) (hslots : slots + 140 ≤ R.slots) (hdg : decode cc pc = .ok (.multianewarray idx 2, 4))
    (kk : ∀ H1 : Heap, Wz G B (N + 21) s (zMul M a) H1 locs → W p l e R s m args below meth c H1 locs (cells + 21) (slots + 140) Q (F0 m (pc + 4) ls (.ref (B + a) :: rest))) : W p l e R s m args below meth c H locs cells slots Q (F0 m pc ls (.int 6 :: .int 20 :: rest)) := by
  obtain ⟨hx, hb, hml, hown, hts, hK⟩ := cx
  obtain ⟨wo, hsz, hZ, hA⟩ := wz
  have hsz2 : H.size = B + a := by omega
  intro T hT X
  obtain ⟨vm₁, cA, comp, fA, fC, X', step⟩ := mz_step X hx hown (hts _ hcl) (hts _ hac) hA (g := F0 m pc ls (.int 6 :: .int 20 :: rest)) rfl (by rw [hb]; exact hdg) rfl (by decide) (by decide) (by decide) (by decide) (by show cells + (1 + 20) ≤ R.cells; omega) (by show slots + (20 + 20 * 6) ≤ R.slots; omega)
  have hTh : (T.setVm vm₁).heap = H := hT
  obtain ⟨f1, f2, -, -⟩ := mzF_facts (T.setVm vm₁) cA comp 20 6 20
  have f3 := fun j hj => mzF_inner (T.setVm vm₁) cA comp 20 6 20 j hj
  have f4 := fun x hx => mzF_old (T.setVm vm₁) cA comp 20 6 x hx 20
  have X' : Stand p l e R s m args below meth c (mzF (T.setVm vm₁) cA comp 20 6 20) locs (cells + 1 + 20) (slots + 20 + 20 * 6) := X'
  have step : ∀ target, Steps p.tables e below ((mzF (T.setVm vm₁) cA comp 20 6 20).setTop (F0 m (pc + 4) ls (.ref T.heap.size :: rest))) target → Steps p.tables e below (T.setTop (F0 m pc ls (.int 6 :: .int 20 :: rest))) target := step
  generalize mzF (T.setVm vm₁) cA comp 20 6 20 = F at f1 f2 f3 f4 X' step
  rw [hTh] at f1 f2 f3 f4
  have c4 : G.2.1 4 = cA := Option.some.inj (((hK.2 4 _ rfl).2 : s.vm.findClass _ = some (G.2.1 4)).symm.trans fA)
  have c0 : G.2.1 0 = comp := Option.some.inj (((hK.2 0 _ rfl).2 : s.vm.findClass _ = some (G.2.1 0)).symm.trans fC)
  have hP' : va_P G.1 vwCl (wl G B (N + 21) (zMul M a)) F.heap := by
    intro k q hk
    rw [wl_at] at hk
    by_cases h1 : k < N + 21
    · rw [if_pos h1] at hk
      cases hk
      by_cases h2 : k < N
      · have h3 : ce G B (zMul M a) (k + 1) = ce G B M (k + 1) := ce_congr rfl rfl (zMul_row (by omega))
        rw [h3]
        have h4 := wo.1 k (B + (k + 1), ce G B M (k + 1)) (by rw [wl_at, if_pos h2])
        exact h4.kept (f4 _ h4.lt)
      · by_cases h5 : k = N
        · subst h5
          subst ha
          rw [ce_4 (by rw [hs])]
          show F.heap[B + (k + 1)]? = some (vp_cell (G.2.1 4) (ln (k + 1), _))
          rw [← hsz2, f2, c4, show ln (k + 1) = 20 by unfold ln; rw [hs], vp_cell_q]
          unfold mzO
          refine congrArg (fun z => some (arrV cA 20 z)) (funext fun j => ?_)
          by_cases hj : j < 20
          · have h8 : (zMul M (k + 1)).2.2 (k + 1) j = k + 1 + 1 + j := by simp [zMul, hj]
            rw [if_pos hj, h8, rv_pos (by omega)]
            show Value.ref (H.size + 1 + j) = Value.ref (B + (k + 1 + 1 + j))
            have h9 : (H.size : Nat) + 1 + j = B + (k + 1 + 1 + j) := by omega
            exact congrArg Value.ref h9
          · have h8 : (zMul M (k + 1)).2.2 (k + 1) j = 0 := by simp [zMul, hj]
            rw [if_neg hj, h8]
            rfl
        · obtain ⟨j, hj, rfl⟩ : ∃ j, j < 20 ∧ k = N + 1 + j := ⟨k - (N + 1), by omega, by omega⟩
          subst ha
          have hsj := hs2 j hj
          rw [ce_0 (by rw [show N + 1 + j + 1 = N + 1 + 1 + j by omega, hsj])]
          show F.heap[B + (N + 1 + j + 1)]? = some (vp_cell (G.2.1 0) (ln (N + 1 + j + 1), .inl (M.1 (N + 1 + j + 1))))
          rw [show B + (N + 1 + j + 1) = H.size + 1 + j by omega, f3 j hj, c0, (hZ (N + 1 + j + 1) (by omega)).1, show ln (N + 1 + j + 1) = 6 by unfold ln; rw [show N + 1 + j + 1 = N + 1 + 1 + j by omega, hsj]]
          rfl
    · rw [if_neg h1] at hk; cases hk
  have hZ' : Zr (N + 21) (zMul M a) := fun b hb => by
    have h := hZ b (by omega)
    exact ⟨h.1, h.2.1, (zMul_row (by omega)).trans h.2.2⟩
  obtain ⟨t, a1, b1⟩ := kk F.heap ⟨⟨hP', ⟨Nat.le_trans wo.2.1.1 (by omega), fun x h1 h2 => (f4 x (Nat.lt_of_lt_of_le h1 wo.2.1.1)).trans (wo.2.1.2.1 x h1 h2), wo.2.1.2.2⟩, wo.2.2.1, trivial, wo.2.2.2.2⟩, by omega, hZ', hA⟩ F rfl (by
    have e1 : cells + 1 + 20 = cells + 21 := by omega
    have e2 : slots + 20 + 20 * 6 = slots + 140 := by omega
    rw [e1, e2] at X'
    exact X')
  refine ⟨t, step t ?_, b1⟩
  rw [hT, hsz2]
  exact a1
end MultiW
