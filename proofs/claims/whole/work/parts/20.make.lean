/-! cells in the making: rows for constructors -/
def T_ : (Nat → Nat → Nat) → Prop := fun _ => True
def Zr (N : Nat) (M : Mem) : Prop := ∀ a, N < a → (M.1 a = fun _ => 0) ∧ (M.2.1 a = fun _ => 0) ∧ (M.2.2 a = fun _ => 0)
theorem Zr.up {N K : Nat} {M : Mem} (h : Zr N M) (hk : N ≤ K) : Zr K M := fun a ha => h a (Nat.lt_of_le_of_lt hk ha)
theorem Zr.sI {N a i : Nat} {v : Int32} {M : Mem} (h : Zr N M) (ha : a ≤ N) : Zr N (sI M a i v) := fun b hb => ⟨(up2_row (by omega)).trans (h b hb).1, (h b hb).2.1, (h b hb).2.2⟩
theorem Zr.sR {N a i v : Nat} {M : Mem} (h : Zr N M) (ha : a ≤ N) : Zr N (sR M a i v) := fun b hb => ⟨(h b hb).1, (h b hb).2.1, (up2_row (by omega)).trans (h b hb).2.2⟩
/-- the world in the making: N cells stand, all behind them is to come -/
def Wz (G : GG) (B N : Nat) (s : State) (M : Mem) (H : Heap) (locs : List Loc) : Prop := Wo T_ G B N s M H locs ∧ H.size = B + N + 1 ∧ Zr N M
def PcZ (G : GG) (B N : Nat) (M : Mem) (av : List Value) : Array Value → State → Prop := va_Pc av (fun U => BW T_ G B N M U ∧ U.heap.size = B + N + 1 ∧ Zr N M)
def QcZ (G : GG) (B N : Nat) (M : Mem) : Array Value → State → Outcome → State → Prop := va_Qv (S := Unit) (fun _ => True) (fun _ t => BW T_ G B N M t ∧ t.heap.size = B + N + 1 ∧ Zr N M) (fun q : Nat => B < q)
abbrev rmZ (k mc ms : Nat) : Room := { frames := k, cells := mc, slots := ms, locals := 64 * k }
theorem wl_succ {G : GG} {B N : Nat} {M : Mem} : wl G B (N + 1) M = wl G B N M ++ [(B + (N + 1), ce G B M (N + 1))] := by
  unfold wl
  rw [List.range_succ, List.map_append]
  rfl
theorem wl_grow {G : GG} {B N : Nat} {M : Mem} {H H1 : Heap} (hP : va_P G.1 vwCl (wl G B N M) H) (o1 : ∀ q, q < H.size → H1[q]? = H[q]?) (h1 : va_at G.1 vwCl (B + (N + 1), ce G B M (N + 1)) H1) : va_P G.1 vwCl (wl G B (N + 1) M) H1 := by
  rw [wl_succ]
  refine (hP.kept (fun k x hx => o1 x.1 ((hP k x hx).lt))).app (fun k x hx => ?_)
  have hz : k < 1 := (List.getElem?_eq_some_iff.mp hx).1
  rw [show k = 0 by omega] at hx
  cases hx
  exact h1
theorem wo_grow {G : GG} {B N : Nat} {s : State} {M : Mem} {H H1 : Heap} {locs : List Loc} (wz : Wz G B N s M H locs) (z1 : H1.size = H.size + 1) (o1 : ∀ q, q < H.size → H1[q]? = H[q]?) (h1 : va_at G.1 vwCl (B + (N + 1), ce G B M (N + 1)) H1) : Wz G B (N + 1) s M H1 locs := by
  obtain ⟨⟨hP, hS, hB, hΦ, hE⟩, hz, hZ⟩ := wz
  exact ⟨⟨wl_grow hP o1 h1, ⟨Nat.le_trans hS.1 (by omega), fun x h2 h3 => (o1 x (Nat.lt_of_lt_of_le h2 hS.1)).trans (hS.2.1 x h2 h3), hS.2.2⟩, hB, hΦ, hE⟩, by omega, hZ.up (by omega)⟩
theorem oF_zero {B : Nat} {M : Mem} {a : Nat} (fk : List Nat) (h1 : M.1 a = fun _ => 0) (h2 : M.2.2 a = fun _ => 0) (j : Nat) (hj : j < fk.length) : vp_V (oF B M a 0 fk) j = if fk[j]? = some 0 then Value.int 0 else Value.null := by
  unfold vp_V
  rw [List.getD_eq_getElem?_getD, oF_get]
  have hq : fk[j]? = some fk[j] := List.getElem?_eq_getElem hj
  rw [hq, h1, h2]
  by_cases e : fk[j] = 0
  · simp [e]
  · simp [e, rv, va_rf]
/-- a class whose objects are made: its words, its fields' kinds -/
def NI (own : String) (idx ci n : Nat) : Prop := ∃ (C : String) (T : u_T) (ty0 : Nat → FieldType), vwCl[ci]? = some (C, T, n) ∧ Cond.classLink own idx C ∈ gtbl ∧ Cond.instantiable C n ∈ gtbl ∧ Cond.initialized C ∈ gtbl ∧ (∀ w ∈ u_ws C T n, w ∈ gtbl) ∧ (∀ k, k < n → parseFieldDescriptor (T k).2.2.1 = some (ty0 k)) ∧ (fks ci).length = n ∧ ∀ k, k < n → defaultValue (ty0 k) = if (fks ci)[k]? = some 0 then Value.int 0 else Value.null
section Make
variable {p : Program} {l : Launch} {e : Env} {R : Room} {s : State} {m : MethodId} {args : Array Value} {below : List Frame} {meth : Method} {c : Code} {H : Heap} {locs : List Loc} {cells slots : Nat} {Q : State → Prop} {cc : ByteArray} {pc nL : Nat} {ls : Array Slot} {rest st : List Value} {own : String} {G : GG} {B N : Nat} {M M' : Mem} {a ci k idx n : Nat}
variable {y : MethodName} {bytes : ByteArray} {maxL : Nat} {As : List Value}
theorem z_new (cx : Cx p s m args c cc nL own G) (wz : Wz G B N s M H locs) (ni : NI own idx ci n) (hs : (sh (N + 1)).1 = ci + 10) (hcells : cells + 1 ≤ R.cells) (hslots : slots + n ≤ R.slots) (hdg : decode cc pc = .ok (.new idx, 3))
    (kk : ∀ H1 : Heap, Wz G B (N + 1) s M H1 locs → W p l e R s m args below meth c H1 locs (cells + 1) (slots + n) Q (F0 m (pc + 3) ls (.ref (B + (N + 1)) :: rest))) : W p l e R s m args below meth c H locs cells slots Q (F0 m pc ls rest) := by
  obtain ⟨hx, hb, hml, hown, hts, hK⟩ := cx
  obtain ⟨C, T, ty0, h1, h2, h3, h4, h5, h6, h7, h8⟩ := ni
  have hKn := hK.1 ci _ h1
  have hsz : H.size = B + (N + 1) := by have := wz.2.1; omega
  refine W.newcK hx hb hown (hts _ h2) (hts _ h3) (hts _ h4) rfl hdg hcells hslots hKn.2.1 hsz fun H1 kC hkC e1 z1 o1 => ?_
  refine kk H1 (wo_grow wz (by omega) (fun q hq => o1 q (by omega)) ?_)
  show va_at G.1 vwCl (B + (N + 1), ce G B M (N + 1)) H1
  rw [ce_o hs]
  have hz := wz.2.2 (N + 1) (by omega)
  exact ⟨_, h1, (u_born ty0 hts h5 hKn hkC e1 h6).to (fun j hj => by rw [h8 j hj, oF_zero _ hz.1 hz.2.2 j (by rw [h7]; exact hj)])⟩
theorem z_newI (cx : Cx p s m args c cc nL own G) (wz : Wz G B N s M H locs) (hw : Cond.arrayClass .int ∈ gtbl) {x : Int32} {len : Nat} (hx0 : ¬ x < 0) (hxl : x.toNatClampNeg = len) (hs : sh (N + 1) = (0, len)) (hlen : len ≤ 1000) (hcells : cells + 1 ≤ R.cells) (hslots : slots + len ≤ R.slots) (hdg : decode cc pc = .ok (.newarray .int, 2))
    (kk : ∀ H1 : Heap, Wz G B (N + 1) s M H1 locs → W p l e R s m args below meth c H1 locs (cells + 1) (slots + len) Q (F0 m (pc + 2) ls (.ref (B + (N + 1)) :: rest))) : W p l e R s m args below meth c H locs cells slots Q (F0 m pc ls (.int x :: rest)) := by
  obtain ⟨hx, hb, hml, hown, hts, hK⟩ := cx
  have hsz : H.size = B + (N + 1) := by have := wz.2.1; omega
  refine va_newaK hx hb (hts _ hw) rfl hdg rfl hx0 hxl (by show len * componentBytes .int ≤ _; simp [componentBytes]; omega) hcells hslots hsz fun H1 cA e1 z1 o1 hAr hNm => ?_
  refine kk H1 (wo_grow wz (by omega) (fun q hq => o1 q (by omega)) ?_)
  rw [ce_0 (by rw [hs])]
  have hc : G.2.1 0 = cA := Option.some.inj (((hK.2 0 _ rfl).2 : s.vm.findClass _ = some (G.2.1 0)).symm.trans hNm)
  have hz := wz.2.2 (N + 1) (by omega)
  show H1[B + (N + 1)]? = some (vp_cell (G.2.1 0) (ln (N + 1), .inl (M.1 (N + 1))))
  rw [e1, hc, hz.1, show ln (N + 1) = len by unfold ln; rw [hs]]
  rfl
theorem z_newZ (cx : Cx p s m args c cc nL own G) (wz : Wz G B N s M H locs) (hw : Cond.arrayClass .boolean ∈ gtbl) {x : Int32} {len : Nat} (hx0 : ¬ x < 0) (hxl : x.toNatClampNeg = len) (hs : sh (N + 1) = (1, len)) (hlen : len ≤ 1000) (hcells : cells + 1 ≤ R.cells) (hslots : slots + len ≤ R.slots) (hdg : decode cc pc = .ok (.newarray .boolean, 2))
    (kk : ∀ H1 : Heap, Wz G B (N + 1) s M H1 locs → W p l e R s m args below meth c H1 locs (cells + 1) (slots + len) Q (F0 m (pc + 2) ls (.ref (B + (N + 1)) :: rest))) : W p l e R s m args below meth c H locs cells slots Q (F0 m pc ls (.int x :: rest)) := by
  obtain ⟨hx, hb, hml, hown, hts, hK⟩ := cx
  have hsz : H.size = B + (N + 1) := by have := wz.2.1; omega
  refine va_newaK hx hb (hts _ hw) rfl hdg rfl hx0 hxl (by show len * componentBytes .boolean ≤ _; simp [componentBytes]; omega) hcells hslots hsz fun H1 cA e1 z1 o1 hAr hNm => ?_
  refine kk H1 (wo_grow wz (by omega) (fun q hq => o1 q (by omega)) ?_)
  rw [ce_1 (by rw [hs])]
  have hc : G.2.1 1 = cA := Option.some.inj (((hK.2 1 _ rfl).2 : s.vm.findClass _ = some (G.2.1 1)).symm.trans hNm)
  have hz := wz.2.2 (N + 1) (by omega)
  show H1[B + (N + 1)]? = some (vp_cell (G.2.1 1) (ln (N + 1), .inl (M.1 (N + 1))))
  rw [e1, hc, hz.1, show ln (N + 1) = len by unfold ln; rw [hs]]
  rfl
theorem z_newJ (cx : Cx p s m args c cc nL own G) (wz : Wz G B N s M H locs) (hw : Cond.arrayClass .long ∈ gtbl) {x : Int32} {len : Nat} (hx0 : ¬ x < 0) (hxl : x.toNatClampNeg = len) (hs : sh (N + 1) = (2, len)) (hlen : len ≤ 1000) (hcells : cells + 1 ≤ R.cells) (hslots : slots + len ≤ R.slots) (hdg : decode cc pc = .ok (.newarray .long, 2))
    (kk : ∀ H1 : Heap, Wz G B (N + 1) s M H1 locs → W p l e R s m args below meth c H1 locs (cells + 1) (slots + len) Q (F0 m (pc + 2) ls (.ref (B + (N + 1)) :: rest))) : W p l e R s m args below meth c H locs cells slots Q (F0 m pc ls (.int x :: rest)) := by
  obtain ⟨hx, hb, hml, hown, hts, hK⟩ := cx
  have hsz : H.size = B + (N + 1) := by have := wz.2.1; omega
  refine va_newaK hx hb (hts _ hw) rfl hdg rfl hx0 hxl (by show len * componentBytes .long ≤ _; simp [componentBytes]; omega) hcells hslots hsz fun H1 cA e1 z1 o1 hAr hNm => ?_
  refine kk H1 (wo_grow wz (by omega) (fun q hq => o1 q (by omega)) ?_)
  rw [ce_2 (by rw [hs])]
  have hc : G.2.1 2 = cA := Option.some.inj (((hK.2 2 _ rfl).2 : s.vm.findClass _ = some (G.2.1 2)).symm.trans hNm)
  have hz := wz.2.2 (N + 1) (by omega)
  show H1[B + (N + 1)]? = some (vp_cell (G.2.1 2) (ln (N + 1), .inr (.inl (M.2.1 (N + 1)))))
  rw [e1, hc, hz.2.1, show ln (N + 1) = len by unfold ln; rw [hs]]
  rfl
theorem z_newR (cx : Cx p s m args c cc nL own G) (wz : Wz G B N s M H locs) (hcl : Cond.classLink own idx "BumpsRiver$River" ∈ gtbl) (hov : (Cond.arrayOver (.object "BumpsRiver$River")).before args s = true) {x : Int32} {len : Nat} (hx0 : ¬ x < 0) (hxl : x.toNatClampNeg = len) (hs : sh (N + 1) = (3, len)) (hlen : len ≤ 1000) (hcells : cells + 1 ≤ R.cells) (hslots : slots + len ≤ R.slots) (hdg : decode cc pc = .ok (.anewarray idx, 3))
    (kk : ∀ H1 : Heap, Wz G B (N + 1) s M H1 locs → W p l e R s m args below meth c H1 locs (cells + 1) (slots + len) Q (F0 m (pc + 3) ls (.ref (B + (N + 1)) :: rest))) : W p l e R s m args below meth c H locs cells slots Q (F0 m pc ls (.int x :: rest)) := by
  obtain ⟨hx, hb, hml, hown, hts, hK⟩ := cx
  have hsz : H.size = B + (N + 1) := by have := wz.2.1; omega
  subst hxl
  refine W.anew hx hb hown (hts _ hcl) hov rfl hdg rfl hx0 (by omega) hcells hslots fun cA kA comp f1 f2 f3 f4 => ?_
  generalize hH1 : H.push ({ cls := cA, slots := Array.replicate x.toNatClampNeg .null, vm := .none } : Cell) = H1
  have z1 : H1.size = H.size + 1 := by rw [← hH1, Array.size_push]
  have e1 : H1[H.size]? = some (arrV cA x.toNatClampNeg (fun _ => .null)) := by rw [← hH1, Array.getElem?_push_size, ← arrV_new]
  have o1 : ∀ q : Nat, q < H.size → H1[q]? = H[q]? := fun q hq => by rw [← hH1, Array.getElem?_push, if_neg (Nat.ne_of_lt hq)]
  rw [hsz]
  refine kk H1 (wo_grow wz z1 o1 ?_)
  rw [ce_3 (by rw [hs])]
  have hc : G.2.1 3 = cA := by
    obtain ⟨-, -, -, -, -, h9⟩ := (hK.2 3 _ rfl).2
    exact Option.some.inj (h9.symm.trans f1)
  have hz := wz.2.2 (N + 1) (by omega)
  show H1[B + (N + 1)]? = some (vp_cell (G.2.1 3) (ln (N + 1), .inr (.inr (.inr (.inr fun i => rv B (M.2.2 (N + 1) i))))))
  rw [← hsz, e1, hc, hz.2.2, show ln (N + 1) = x.toNatClampNeg by unfold ln; rw [hs]]
  rfl
theorem z_keep {v : Int32} {i : Nat} (hz : Zr N M) (ha : a ≤ N) : Zr N (sI M a i v) := hz.sI ha
/-- putfield with the heap's size -/
theorem vz_put {D : va_G} {cl : List vw_C} {tys : List (ClassId × FieldType)} {ws : va_W} {A : Nat → Prop} {H0 : Heap} {a : Nat} (hexec : p.tables.exec = Jvm.exec) (hb : c.code = cc) {own ref C : String} {T : u_T} {N ci index : Nat} {Ts : List Cond} (hts : ∀ w ∈ Ts, w.before args s = true) (hin : ∀ w ∈ u_ws C T N, w ∈ Ts) (ty0 : Nat → FieldType) (hty : ∀ k, k < N → parseFieldDescriptor (T k).2.2.1 = some (ty0 k)) (hnm : ∀ a, a < N → ∀ b, b < N → a ≠ b → (T a).2.1 ≠ (T b).2.1) (hown : s.vm.findClass own = some m.cls) (hK : va_K D cl tys s) (hP : va_P D cl ws H) (hD : va_D A ws) (hS0 : va_S A H0 H locs) (q0 : Nat) {fs : List Value} (he : ws[q0]? = some (a, .inr (ci, fs))) (hc : cl[ci]? = some (C, T, N)) (k : Nat) (hk : k < N) (hlink : (Cond.fieldLink own index ref (T k).2.1 (T k).2.2.1).before args s = true) (hsame : ∀ x, s.fieldFound? (T k).1 (T k).2.1 (T k).2.2.1 = some x → s.fieldFound? ref (T k).2.1 (T k).2.2.1 = some x) (hfin : (T k).2.2.2 = false) {ty : FieldType} {v : Value} (hd : parseFieldDescriptor (T k).2.2.1 = some ty) (hn : narrow ty v = v) (hfit : fits ty v = true) (hl : k < fs.length)
    (hdg : decode cc pc = .ok (.putfield index, 3)) (kk : ∀ (H1 : Heap) (locs1 : List Loc), va_P D cl (ws.set q0 (a, .inr (ci, fs.set k v))) H1 → va_S A H0 H1 locs1 → H1.size = H.size → W p l e R s m args below meth c H1 locs1 cells slots Q (F0 m (pc + 3) ls rest)) : W p l e R s m args below meth c H locs cells slots Q (F0 m pc ls (v :: .ref a :: rest)) := by
  have hap := va_apart (own := own) hts hin ty0 hty hnm hK hc
  obtain ⟨r, h1, cell, q1, q2, q3, q4⟩ := hP q0 _ he
  have hr : r = (C, T, N) := Option.some.inj (h1.symm.trans hc)
  subst hr
  obtain ⟨hS, hfc, kC, hkC, hkind⟩ := hK.1 ci _ hc
  obtain ⟨cf, kf, fi, f, hi, hsl⟩ := hS k hk
  have hlay := hts _ (hin _ (u_in_lay hk))
  unfold u_lay at hlay
  rw [if_neg (by rw [hfin]; decide)] at hlay
  have hst := (u_facts hfc hkC (u_lays hts hin hk) hi).1
  have h6 := u_store hfc hkC hkind hlay hi hd hn hfit
  refine W.putK hexec hb (f := f) ⟨hown, hlink, ⟨_, _, _, hsame _ hi⟩, hst⟩ (by rw [q2]; exact h6) q1 q3 (by rw [hsl]; exact k2_hasslot (q4 k hk)) rfl rfl hdg fun H' e1 e2 e3 => ?_
  rw [hsl] at e1 ⊢
  exact kk H' _ (hP.set hD he ⟨_, hc, t_OB.to (V := updV (vp_V fs) k v) ⟨_, e1, q2, q3, t_set q4 hap hk v⟩ (fun j _ => vp_updV_set hl v j)⟩ e3) (hS0.put e2 e3 (hD.2 q0 _ he)) e2
theorem vz_putF {D : va_G} {cl : List vw_C} {tys : List (ClassId × FieldType)} {ws : va_W} {A : Nat → Prop} {H0 : Heap} {a : Nat} (hexec : p.tables.exec = Jvm.exec) (hb : c.code = cc) {own ref C : String} {T : u_T} {N ci index : Nat} {Ts : List Cond} (hts : ∀ w ∈ Ts, w.before args s = true) (hin : ∀ w ∈ u_ws C T N, w ∈ Ts) (ty0 : Nat → FieldType) (hty : ∀ k, k < N → parseFieldDescriptor (T k).2.2.1 = some (ty0 k)) (hnm : ∀ a, a < N → ∀ b, b < N → a ≠ b → (T a).2.1 ≠ (T b).2.1) (hown : s.vm.findClass own = some m.cls) (hK : va_K D cl tys s) (hP : va_P D cl ws H) (hD : va_D A ws) (hS0 : va_S A H0 H locs) (q0 : Nat) {fs : List Value} (he : ws[q0]? = some (a, .inr (ci, fs))) (hc : cl[ci]? = some (C, T, N)) (k : Nat) (hk : k < N) (hlink : (Cond.fieldLink own index ref (T k).2.1 (T k).2.2.1).before args s = true) (hsame : ∀ x, s.fieldFound? (T k).1 (T k).2.1 (T k).2.2.1 = some x → s.fieldFound? ref (T k).2.1 (T k).2.2.1 = some x) (hfin : (T k).2.2.2 = true) (hin2 : meth.name = "<init>") (hdecl : (T k).1 = own) {ty : FieldType} {v : Value} (hd : parseFieldDescriptor (T k).2.2.1 = some ty) (hn : narrow ty v = v) (hfit : fits ty v = true) (hl : k < fs.length)
    (hdg : decode cc pc = .ok (.putfield index, 3)) (kk : ∀ (H1 : Heap) (locs1 : List Loc), va_P D cl (ws.set q0 (a, .inr (ci, fs.set k v))) H1 → va_S A H0 H1 locs1 → H1.size = H.size → W p l e R s m args below meth c H1 locs1 cells slots Q (F0 m (pc + 3) ls rest)) : W p l e R s m args below meth c H locs cells slots Q (F0 m pc ls (v :: .ref a :: rest)) := by
  have hap := va_apart (own := own) hts hin ty0 hty hnm hK hc
  obtain ⟨r, h1, cell, q1, q2, q3, q4⟩ := hP q0 _ he
  have hr : r = (C, T, N) := Option.some.inj (h1.symm.trans hc)
  subst hr
  obtain ⟨hS, hfc, kC, hkC, hkind⟩ := hK.1 ci _ hc
  obtain ⟨cf, kf, fi, f, hi, hsl⟩ := hS k hk
  have hlay := hts _ (hin _ (u_in_lay hk))
  unfold u_lay at hlay
  rw [if_pos hfin] at hlay
  have hst := (u_facts hfc hkC (u_lays hts hin hk) hi).1
  have hcf : m.cls = cf := by
    obtain ⟨_, _, c', _, _, _, -, -, hf', -, -, -, hown2, -⟩ := Cond.laysFinal_spec hlay
    have e1 : c' = cf := by have := hi.symm.trans hf'; simp at this; exact this.1.symm
    rw [hdecl] at hown2
    rw [← e1]; exact Option.some.inj (hown.symm.trans hown2)
  have h6 := u_fits hfc hkC hkind (Or.inr hlay) hi hd hn hfit
  refine W.putFinK hexec hb hown hlink (hsame _ hi) hst hcf hin2 (by rw [q2]; exact h6) q1 q3 (by rw [hsl]; exact k2_hasslot (q4 k hk)) rfl rfl hdg fun H' e1 e2 e3 => ?_
  rw [hsl] at e1 ⊢
  exact kk H' _ (hP.set hD he ⟨_, hc, t_OB.to (V := updV (vp_V fs) k v) ⟨_, e1, q2, q3, t_set q4 hap hk v⟩ (fun j _ => vp_updV_set hl v j)⟩ e3) (hS0.put e2 e3 (hD.2 q0 _ he)) e2
theorem z_putI (cx : Cx p s m args c cc nL own G) (wz : Wz G B N s M H locs) (h0 : a ≠ 0) (hN : a ≤ N) (hs : (sh a).1 = ci + 10) {ty : FieldType} (fp : FP own idx ci k 0 false ty) {x : Int32} (hn : narrow ty (.int x) = .int x) (hf : fits ty (.int x) = true) (hdg : decode cc pc = .ok (.putfield idx, 3))
    (kk : ∀ (H1 : Heap) (locs1 : List Loc), Wz G B N s (sI M a k x) H1 locs1 → W p l e R s m args below meth c H1 locs1 cells slots Q (F0 m (pc + 3) ls rest)) : W p l e R s m args below meth c H locs cells slots Q (F0 m pc ls (.int x :: .ref (B + a) :: rest)) := by
  obtain ⟨hx, hb, hml, hown, hts, hK⟩ := cx
  obtain ⟨C, T, n, ty0, h1, h2, h3, h4, h5, h6, h7, h8, h9⟩ := fp
  obtain ⟨wo, hsz, hZ⟩ := wz
  have hk : k < (fks ci).length := (List.getElem?_eq_some_iff.mp h5).1
  refine vz_put hx hb hts h4 ty0 h6 h7 hown hK wo.1 wl_D wo.2.1 (a - 1) (by rw [wl_get h0 hN, ce_o hs]) h1 k h2 (hts _ h3) (fun _ h => h) h8 (ty := ty) (by rw [h6 k h2, h9]) hn hf (by rw [oF_len]; exact hk) hdg (fun H1 locs1 p1 s1 z1 => kk H1 locs1 ⟨⟨?_, s1, wo.2.2⟩, by omega, hZ.sI hN⟩)
  rwa [wl_set h0 hN (M' := sI M a k x) (fun j h => ce_sI h) (by rw [ce_o hs, oF_setI _ h5])] at p1
theorem z_putR (cx : Cx p s m args c cc nL own G) (wz : Wz G B N s M H locs) (h0 : a ≠ 0) (hN : a ≤ N) (hs : (sh a).1 = ci + 10) {ty : FieldType} (fp : FP own idx ci k 1 false ty) {v : Nat} (hv0 : v ≠ 0) (hn : ∀ q : Nat, narrow ty (.ref q) = .ref q) (hf : ∀ q : Nat, fits ty (.ref q) = true) (hdg : decode cc pc = .ok (.putfield idx, 3))
    (kk : ∀ (H1 : Heap) (locs1 : List Loc), Wz G B N s (sR M a k v) H1 locs1 → W p l e R s m args below meth c H1 locs1 cells slots Q (F0 m (pc + 3) ls rest)) : W p l e R s m args below meth c H locs cells slots Q (F0 m pc ls (.ref (B + v) :: .ref (B + a) :: rest)) := by
  obtain ⟨hx, hb, hml, hown, hts, hK⟩ := cx
  obtain ⟨C, T, n, ty0, h1, h2, h3, h4, h5, h6, h7, h8, h9⟩ := fp
  obtain ⟨wo, hsz, hZ⟩ := wz
  have hk : k < (fks ci).length := (List.getElem?_eq_some_iff.mp h5).1
  refine vz_put hx hb hts h4 ty0 h6 h7 hown hK wo.1 wl_D wo.2.1 (a - 1) (by rw [wl_get h0 hN, ce_o hs]) h1 k h2 (hts _ h3) (fun _ h => h) h8 (ty := ty) (by rw [h6 k h2, h9]) (hn _) (hf _) (by rw [oF_len]; exact hk) hdg (fun H1 locs1 p1 s1 z1 => kk H1 locs1 ⟨⟨?_, s1, wo.2.2.1, trivial, wo.2.2.2.2⟩, by omega, hZ.sR hN⟩)
  rwa [wl_set h0 hN (M' := sR M a k v) (fun j h => ce_sR h) (by rw [ce_o hs, oF_setR _ h5 hv0])] at p1
theorem z_putF (cx : Cx p s m args c cc nL own G) (wz : Wz G B N s M H locs) (h0 : a ≠ 0) (hN : a ≤ N) (hs : (sh a).1 = ci + 10) {ty : FieldType} (fp : FP own idx ci k 1 true ty) (hin2 : meth.name = "<init>") (hde : ∀ (C : String) (T : u_T) (n : Nat), vwCl[ci]? = some (C, T, n) → (T k).1 = own) {v : Nat} (hv0 : v ≠ 0) (hn : ∀ q : Nat, narrow ty (.ref q) = .ref q) (hf : ∀ q : Nat, fits ty (.ref q) = true) (hdg : decode cc pc = .ok (.putfield idx, 3))
    (kk : ∀ (H1 : Heap) (locs1 : List Loc), Wz G B N s (sR M a k v) H1 locs1 → W p l e R s m args below meth c H1 locs1 cells slots Q (F0 m (pc + 3) ls rest)) : W p l e R s m args below meth c H locs cells slots Q (F0 m pc ls (.ref (B + v) :: .ref (B + a) :: rest)) := by
  obtain ⟨hx, hb, hml, hown, hts, hK⟩ := cx
  obtain ⟨C, T, n, ty0, h1, h2, h3, h4, h5, h6, h7, h8, h9⟩ := fp
  obtain ⟨wo, hsz, hZ⟩ := wz
  have hk : k < (fks ci).length := (List.getElem?_eq_some_iff.mp h5).1
  refine vz_putF hx hb hts h4 ty0 h6 h7 hown hK wo.1 wl_D wo.2.1 (a - 1) (by rw [wl_get h0 hN, ce_o hs]) h1 k h2 (hts _ h3) (fun _ h => h) h8 hin2 (hde _ _ _ h1) (ty := ty) (by rw [h6 k h2, h9]) (hn _) (hf _) (by rw [oF_len]; exact hk) hdg (fun H1 locs1 p1 s1 z1 => kk H1 locs1 ⟨⟨?_, s1, wo.2.2.1, trivial, wo.2.2.2.2⟩, by omega, hZ.sR hN⟩)
  rwa [wl_set h0 hN (M' := sR M a k v) (fun j h => ce_sR h) (by rw [ce_o hs, oF_setR _ h5 hv0])] at p1
theorem z_iast (cx : Cx p s m args c cc nL own G) (wz : Wz G B N s M H locs) (h0 : a ≠ 0) (hN : a ≤ N) (hs : (sh a).1 = 0) {i x : Int32} (hin : inb i (ln a) = true) (hdg : decode cc pc = .ok (.iastore, 1))
    (kk : ∀ (H1 : Heap) (locs1 : List Loc), Wz G B N s (sI M a (ix i) x) H1 locs1 → W p l e R s m args below meth c H1 locs1 cells slots Q (F0 m (pc + 1) ls rest)) : W p l e R s m args below meth c H locs cells slots Q (F0 m pc ls (.int x :: .int i :: .ref (B + a) :: rest)) := by
  obtain ⟨hx, hb, hml, hown, hts, hK⟩ := cx
  obtain ⟨wo, hsz, hZ⟩ := wz
  have ha : (wl G B N M)[a - 1]? = some (B + a, .inl (G.2.1 0, ln a, .inl (M.1 a))) := by rw [wl_get h0 hN, ce_0 hs]
  refine W.iast hx hb (wo.1 (a - 1) _ ha) ((hK.2 0 _ rfl).1 (ln a) (fun j => .int (M.1 a j))) (fun q => by cases q) (by show ¬ (i < 0 ∨ (arrV _ _ _).slots.size ≤ _); rw [arrV_size]; exact inb_vp hin) rfl rfl hdg fun H1 e z oq => ?_
  refine kk H1 _ ⟨⟨?_, wo.2.1.put z oq (by show B < B + a; omega), wo.2.2⟩, by omega, hZ.sI hN⟩
  rw [← wl_set h0 hN (M := M) (M' := sI M a (ix i) x) (fun j h => ce_sI h) rfl]
  refine wo.1.set wl_D ha ?_ oq
  rw [ce_0 hs]
  show H1[B + a]? = some (vp_cell _ _)
  rw [e, vp_cell_i, vp_cell_i, arrV_store]
  congr 2
  funext q
  by_cases hq : q = i.toNatClampNeg
  · subst hq
    simp [updV, sI, up2, ix]
  · simp [updV, sI, up2, ix, hq]
theorem z_aast (cx : Cx p s m args c cc nL own G) (wz : Wz G B N s M H locs) (h0 : a ≠ 0) (hN : a ≤ N) (hs : (sh a).1 = 3) {i : Int32} {v : Nat} (hin : inb i (ln a) = true) (hv0 : v ≠ 0) (hvN : v ≤ N) (hvs : (sh v).1 = 4 + 10) (hdg : decode cc pc = .ok (.aastore, 1))
    (kk : ∀ (H1 : Heap) (locs1 : List Loc), Wz G B N s (sR M a (ix i) v) H1 locs1 → W p l e R s m args below meth c H1 locs1 cells slots Q (F0 m (pc + 1) ls rest)) : W p l e R s m args below meth c H locs cells slots Q (F0 m pc ls (.ref (B + v) :: .int i :: .ref (B + a) :: rest)) := by
  obtain ⟨hx, hb, hml, hown, hts, hK⟩ := cx
  obtain ⟨wo, hsz, hZ⟩ := wz
  have hi := inb_vp hin
  have hlt : i.toNatClampNeg < ln a := Nat.not_le.mp fun q => hi (Or.inr q)
  have hi0 : ¬ i < 0 := fun q => hi (Or.inl q)
  have ha : (wl G B N M)[a - 1]? = some (B + a, .inl (G.2.1 3, ln a, .inr (.inr (.inr (.inr fun i => rv B (M.2.2 a i)))))) := by rw [wl_get h0 hN, ce_3 hs]
  obtain ⟨r', hr', cellV, g1, g2, g3, -⟩ := wo.1 (v - 1) (B + v, .inr (4, oF B M v 0 (fks 4))) (by rw [wl_get hv0 hvN, ce_o hvs])
  have hcls := (hK.1 4 (RX4, TX4, 9) rfl).2
  obtain ⟨kA, comp, k1, k2, k3, -⟩ := (hK.2 3 (G.2.1 3, .object "BumpsRiver$River") rfl).2
  have hcomp : comp = G.1.1 4 := Option.some.inj (k3.symm.trans hcls.1)
  subst hcomp
  obtain ⟨kC, hkC, -⟩ := hcls.2
  refine W.aast hx hb (wo.1 (a - 1) _ ha) (fun q h => by cases h) (fun h => by cases h) k1 k2 rfl hkC ⟨hi0, by show _ < (arrV _ _ _).slots.size; rw [arrV_size]; exact hlt⟩ g1 (fun q h => by rw [g3] at h; cases h) (by rw [g2]; exact hkC) (by rw [g2]; exact va_assign hcls) rfl rfl hdg fun H1 e z oq => ?_
  refine kk H1 _ ⟨⟨?_, wo.2.1.put z oq (by show B < B + a; omega), wo.2.2.1, trivial, wo.2.2.2.2⟩, by omega, hZ.sR hN⟩
  rw [← wl_set h0 hN (M := M) (M' := sR M a (ix i) v) (fun j h => ce_sR h) rfl]
  refine wo.1.set wl_D ha ?_ oq
  rw [ce_3 hs]
  show H1[B + a]? = some (vp_cell _ _)
  rw [e, vp_cell_q, vp_cell_q, arrV_store]
  congr 2
  funext q
  by_cases hq : q = i.toNatClampNeg
  · subst hq
    simp [updV, sR, up2, ix, rv_pos hv0, va_rf]
  · simp [updV, sR, up2, ix, hq]
theorem z_objInit (cx : Cx p s m args c cc nL own G) (hls : ls.size = nL) (hlink : Cond.methodLink own idx Lib.objectInit ∈ gtbl) (hin : Cond.instanceMethod Lib.objectInit ∈ gtbl) (hco : Cond.code Lib.objectInit ⟨#[0xb1]⟩ 1 none ∈ gtbl) (hrest : (rest.map fun v => v.category).sum ≤ 8) (hR : 1 ≤ R.frames ∧ 64 ≤ R.locals) (hdg : decode cc pc = .ok (.invokespecial idx, 3))
    (kk : W p l e R s m args below meth c H locs cells slots Q (F0 m (pc + 3) ls rest)) : W p l e R s m args below meth c H locs cells slots Q (F0 m pc ls (.ref a :: rest)) :=
  W.objInit cx.1 cx.2.1 cx.2.2.2.1 (cx.2.2.2.2.1 _ hlink) (cx.2.2.2.2.1 _ hin) (cx.2.2.2.2.1 _ hco) rfl (by show ls.size = c.maxLocals; rw [hls, cx.2.2.1]) rfl hdg hR.1 (by have := lv_room (m := m) (pc := pc) (ls := ls) (rest := .ref a :: rest) hrest; omega) kk
def CI (own : String) (idx : Nat) (y : MethodName) (bytes : ByteArray) (maxL : Nat) (n : Nat) : Prop :=
  Cond.methodLink own idx y ∈ gtbl ∧ Cond.instanceMethod y ∈ gtbl ∧ y.name = "<init>" ∧ Cond.initialized y.cls ∈ gtbl ∧ Cond.code y bytes maxL none ∈ gtbl ∧ (y.cls ≠ "java/lang/invoke/MethodHandle" ∧ y.cls ≠ "java/lang/invoke/VarHandle" ∧ (parseMethodDescriptor y.desc).map (fun d => d.parameters.length) = some n) ∧ maxL ≤ 45
theorem blind_Z {av : List Value} : FrameBlind (PcZ G B N M av) := by
  intro a U g mk q
  obtain ⟨q0, ⟨qP, qK, qF, qE⟩, qB, qZ⟩ := q
  exact ⟨q0, ⟨qP, va_K.moved (u := U) (U := U.calling g mk a) (Vm.Alike.refl U.vm) qK, qF, ex_call g mk a qE⟩, qB, qZ⟩
theorem z_init {N' mc ms : Nat} (cx : Cx p s m args c cc nL own G) (wz : Wz G B N s M H locs) (hM : Met l y (wsG y bytes maxL none) (rmZ k mc ms) (PcZ G B N M (.ref (B + a) :: As)) (QcZ G B N' M') mc ms (fr B)) (ci : CI own idx y bytes maxL n) (hn : As.length = n) (hls : ls.size = nL) (hst : st = As.reverse ++ .ref (B + a) :: rest) (hrest : (rest.map fun v => v.category).sum ≤ 8) (hR : k + 1 ≤ R.frames ∧ 64 * (k + 1) ≤ R.locals ∧ cells + mc ≤ R.cells ∧ slots + ms ≤ R.slots) (hdg : decode cc pc = .ok (.invokespecial idx, 3))
    (kk : ∀ (H1 : Heap) (locs1 : List Loc), Wz G B N' s M' H1 locs1 → W p l e R s m args below meth c H1 locs1 (cells + mc) (slots + ms) Q (F0 m (pc + 3) ls rest)) : W p l e R s m args below meth c H locs cells slots Q (F0 m pc ls st) := by
  obtain ⟨hx, hb, hml, hown, hts, hK⟩ := cx
  obtain ⟨c1, c2, c3, c4, c5, c6, c7⟩ := ci
  obtain ⟨wo, hsz, hZ⟩ := wz
  refine va_callv (va_runI (own := own) (index := idx) (y := y) (bytes := bytes) (maxL := maxL) (n := n) (As := As) (rest := rest) (b := B + a) ⟨hx, hb, hml, hown, hts⟩ hM ⟨callB_of n hts (goodIn_g c5) rfl rfl rfl (hts _ c4) (hts _ c1) c6 ⟨hR.1, by have := hR.2.1; show 8 + (maxL + 11) + 64 * k ≤ R.locals; omega⟩, c3, hts _ c2⟩ ⟨blind_Z, fun U hU hW => ⟨rfl, ⟨by rw [hU]; exact wo.1, va_K.moved hW.alike hK, trivial, ex_go wo.2.2.2.2 wo.2.1 hU hW⟩, by rw [hU]; exact hsz, hZ⟩⟩ rfl hn hls hst (lv_room hrest) hdg ⟨hR.2.2.1, hR.2.2.2⟩) wo.2.1 (fun q _ h => h) (fun q h => h) (fun u t H1 locs1 ht hvm hw hB hz hk hS => kk H1 locs1 ⟨⟨by rw [← ht]; exact hB.1.1, hS, wo.2.2.1, trivial, wo.2.2.2.2⟩, by rw [← ht]; exact hB.2.1, hB.2.2⟩)
theorem z_vret (cx : Cx p s m args c cc nL own G) (wz : Wz G B N s M H locs) (hr : meth.sig.returnType = none) (hlk : meth.locks = false) (hdg : decode cc pc = .ok (.return_, 1)) : W p l e R s m args below meth c H locs cells slots (MQ below (QcZ G B N M) args s cells slots (fr B)) (F0 m pc ls []) :=
  W.vret cx.1 cx.2.1 hr (fun t ht hW => ⟨⟨(), rfl, trivial, wo_BW cx wz.1 ht hW, by rw [ht]; exact wz.2.1, wz.2.2⟩, wz.1.2.1.F ht⟩) wz.1.2.1.2.2 hdg
theorem mk_MetZ {mc ms : Nat} {av : List Value} {Qc : Array Value → State → Outcome → State → Prop} (hy : plainName y.cls = true) (ho : y.cls = own) (hlen : (lg_sl av).length ≤ maxL)
    (body : ∀ (p : Program) (e : Env) (s : State) (m : MethodId) (below : List Frame) (meth : Method) (c : Code) (ls : Array Slot), Cx p s m av.toArray c bytes maxL own G → meth.sig.returnType = none → meth.locks = false → meth.name = y.name → Wz G B N s M s.heap [] → lv_has ls maxL (lv_args 0 av) → W p l e (rmZ k mc ms) s m av.toArray below meth c s.heap [] 0 0 (MQ below Qc av.toArray s mc ms (fr B)) (F0 m 0 ls [])) :
    Met l y (wsG y bytes maxL none) (rmZ k mc ms) (PcZ G B N M av) Qc mc ms (fr B) := by
  refine Met.ofW (cc := bytes) (maxL := maxL) (ret := none) hy rfl ?_
  intro p e s m args below meth c s₁ B' hml hv
  obtain ⟨rfl, ⟨hP, hK, hF, hE⟩, hB, hZ⟩ := hv
  have hx := B'.exec
  have hb := B'.bytes
  have hr := B'.returns
  have hts := wsG_ok (atoms_spec (ws := wsG y bytes maxL none) B'.pre)
  have hown : s.vm.findClass own = some m.cls := by rw [← ho]; exact findClass_of_methodNamed B'.named
  have hlocks := B'.notSynchronized
  have hnm : meth.name = y.name := (name_of_methodNamed B'.named B'.method).1
  have hl := lv_entry av (n := maxL) hlen
  rw [lg_entry_eq]
  exact body p e s m below meth c _ ⟨hx, hb, hml, hown, hts, hK⟩ hr hlocks hnm ⟨⟨hP, va_S.rf, by omega, hF, hE⟩, hB, hZ⟩ hl
end Make
