/-! cells in the making: rows for constructors -/
def T_ : (Nat → Nat → Nat) → Prop := fun _ => True
def Zr (N : Nat) (M : Mem) : Prop := ∀ a, N < a → (M.1 a = fun _ => 0) ∧ (M.2.1 a = fun _ => 0) ∧ (M.2.2 a = fun _ => 0)
theorem Zr.up {N K : Nat} {M : Mem} (h : Zr N M) (hk : N ≤ K) : Zr K M := fun a ha => h a (Nat.lt_of_le_of_lt hk ha)
theorem Zr.sI {N a i : Nat} {v : Int32} {M : Mem} (h : Zr N M) (ha : a ≤ N) : Zr N (sI M a i v) := fun b hb => ⟨(up2_row (by omega)).trans (h b hb).1, (h b hb).2.1, (h b hb).2.2⟩
theorem Zr.sR {N a i v : Nat} {M : Mem} (h : Zr N M) (ha : a ≤ N) : Zr N (sR M a i v) := fun b hb => ⟨(h b hb).1, (h b hb).2.1, (up2_row (by omega)).trans (h b hb).2.2⟩
/-- the classes River[] and int[][] stand -/
def AO (U : State) : Prop := va_AO "BumpsRiver$River" U ∧ ∃ (comp c : ClassId) (k : Class), U.vm.findClass "[I" = some comp ∧ U.vm.classes[c]? = some k ∧ k.kind = .array comp (.array .int) ∧ U.vm.findClass "[[I" = some c
theorem AO.moved {u U : State} (hvm : u.vm.Alike U.vm) (h : AO u) : AO U := by
  obtain ⟨h1, comp, c, k, h2, h3, h4, h5⟩ := h
  obtain ⟨k', hk', he⟩ := hvm.2.2 _ _ h3
  exact ⟨h1.moved hvm, comp, c, k', by rw [hvm.findClass]; exact h2, hk', by rw [he]; exact h4, by rw [hvm.findClass]; exact h5⟩
/-- the world in the making: N cells stand, all behind them is to come -/
def Wz (G : GG) (B N : Nat) (s : State) (M : Mem) (H : Heap) (locs : List Loc) : Prop := Wo T_ G B N s M H locs ∧ H.size = B + N + 1 ∧ Zr N M ∧ AO s
def PcZ (G : GG) (B N : Nat) (M : Mem) (av : List Value) : Array Value → State → Prop := va_Pc av (fun U => BW T_ G B N M U ∧ U.heap.size = B + N + 1 ∧ Zr N M ∧ AO U)
def QcZ (G : GG) (B N : Nat) (M : Mem) : Array Value → State → Outcome → State → Prop := va_Qv (S := Unit) (fun _ => True) (fun _ t => BW T_ G B N M t ∧ t.heap.size = B + N + 1 ∧ Zr N M) (fun q : Nat => B < q)
abbrev rmZ (k mc ms : Nat) : Room := { frames := k, cells := mc, slots := ms, locals := 64 * k }
theorem wl_succ {G : GG} {B N : Nat} {M : Mem} : wl G B (N + 1) M = wl G B N M ++ [(B + (N + 1), ce G B M (N + 1))] := by
  unfold wl
  rw [List.range_succ, List.map_append]
  rfl
theorem wl_grow {G : GG} {B N : Nat} {M : Mem} {H H1 : Heap} (hP : va_P G.1 vwCl (wl G B N M) H) (o1 : ∀ q, q < H.size → H1[q]? = H[q]?) (h1 : va_at G.1 vwCl (B + (N + 1), ce G B M (N + 1)) H1) : va_P G.1 vwCl (wl G B (N + 1) M) H1 := by
  rw [wl_succ]
  refine (hP.kept (fun k x hx => o1 x.1 ((hP k x hx).lt))).app (fun k x hx => ?_)
  have hz : k < 1 := (List.getElem?_eq_some_iff.mp hx).1
  rw [show k = 0 by omega] at hx
  cases hx
  exact h1
theorem wo_grow {G : GG} {B N : Nat} {s : State} {M : Mem} {H H1 : Heap} {locs : List Loc} (wz : Wz G B N s M H locs) (z1 : H1.size = H.size + 1) (o1 : ∀ q, q < H.size → H1[q]? = H[q]?) (h1 : va_at G.1 vwCl (B + (N + 1), ce G B M (N + 1)) H1) : Wz G B (N + 1) s M H1 locs := by
  obtain ⟨⟨hP, hS, hB, hΦ, hE⟩, hz, hZ, hA⟩ := wz
  exact ⟨⟨wl_grow hP o1 h1, ⟨Nat.le_trans hS.1 (by omega), fun x h2 h3 => (o1 x (Nat.lt_of_lt_of_le h2 hS.1)).trans (hS.2.1 x h2 h3), hS.2.2⟩, hB, hΦ, hE⟩, by omega, hZ.up (by omega), hA⟩
theorem oF_zero {B : Nat} {M : Mem} {a : Nat} (fk : List Nat) (h1 : M.1 a = fun _ => 0) (h2 : M.2.2 a = fun _ => 0) (j : Nat) (hj : j < fk.length) : vp_V (oF B M a 0 fk) j = if fk[j]? = some 0 then Value.int 0 else Value.null := by
  unfold vp_V
  rw [List.getD_eq_getElem?_getD, oF_get]
  have hq : fk[j]? = some fk[j] := List.getElem?_eq_getElem hj
  rw [hq, h1, h2]
  by_cases e : fk[j] = 0
  · simp [e]
  · simp [e, rv, va_rf]
/-- a class whose objects are made: its words, its fields' kinds -/
def NI (own : String) (idx ci n : Nat) : Prop := ∃ (C : String) (T : u_T) (ty0 : Nat → FieldType), vwCl[ci]? = some (C, T, n) ∧ Cond.classLink own idx C ∈ gtbl ∧ Cond.instantiable C n ∈ gtbl ∧ Cond.initialized C ∈ gtbl ∧ (∀ w ∈ u_ws C T n, w ∈ gtbl) ∧ (∀ k, k < n → parseFieldDescriptor (T k).2.2.1 = some (ty0 k)) ∧ (fks ci).length = n ∧ ∀ k, k < n → defaultValue (ty0 k) = if (fks ci)[k]? = some 0 then Value.int 0 else Value.null
section Make
variable {p : Program} {l : Launch} {e : Env} {R : Room} {s : State} {m : MethodId} {args : Array Value} {below : List Frame} {meth : Method} {c : Code} {H : Heap} {locs : List Loc} {cells slots : Nat} {Q : State → Prop} {cc : ByteArray} {pc nL : Nat} {ls : Array Slot} {rest st : List Value} {own : String} {G : GG} {B N : Nat} {M M' : Mem} {a ci k idx n : Nat}
variable {y : MethodName} {bytes : ByteArray} {maxL : Nat} {As : List Value}
theorem z_new (cx : Cx p s m args c cc nL own G) (wz : Wz G B N s M H locs) (ni : NI own idx ci n) (hs : (sh (N + 1)).1 = ci + 10) (hcells : cells + 1 ≤ R.cells) (hslots : slots + n ≤ R.slots) (hdg : decode cc pc = .ok (.new idx, 3))
    (kk : ∀ H1 : Heap, Wz G B (N + 1) s M H1 locs → W p l e R s m args below meth c H1 locs (cells + 1) (slots + n) Q (F0 m (pc + 3) ls (.ref (B + (N + 1)) :: rest))) : W p l e R s m args below meth c H locs cells slots Q (F0 m pc ls rest) := by
  obtain ⟨hx, hb, hml, hown, hts, hK⟩ := cx
  obtain ⟨C, T, ty0, h1, h2, h3, h4, h5, h6, h7, h8⟩ := ni
  have hKn := hK.1 ci _ h1
  have hsz : H.size = B + (N + 1) := by have := wz.2.1; omega
  refine W.newcK hx hb hown (hts _ h2) (hts _ h3) (hts _ h4) rfl hdg hcells hslots hKn.2.1 hsz fun H1 kC hkC e1 z1 o1 => ?_
  refine kk H1 (wo_grow wz (by omega) (fun q hq => o1 q (by omega)) ?_)
  show va_at G.1 vwCl (B + (N + 1), ce G B M (N + 1)) H1
  rw [ce_o hs]
  have hz := wz.2.2.1 (N + 1) (by omega)
  exact ⟨_, h1, (u_born ty0 hts h5 hKn hkC e1 h6).to (fun j hj => by rw [h8 j hj, oF_zero _ hz.1 hz.2.2 j (by rw [h7]; exact hj)])⟩
theorem z_newI (cx : Cx p s m args c cc nL own G) (wz : Wz G B N s M H locs) (hw : Cond.arrayClass .int ∈ gtbl) {x : Int32} {len : Nat} (hx0 : ¬ x < 0) (hxl : x.toNatClampNeg = len) (hs : sh (N + 1) = (0, len)) (hlen : len ≤ 1000) (hcells : cells + 1 ≤ R.cells) (hslots : slots + len ≤ R.slots) (hdg : decode cc pc = .ok (.newarray .int, 2))
    (kk : ∀ H1 : Heap, Wz G B (N + 1) s M H1 locs → W p l e R s m args below meth c H1 locs (cells + 1) (slots + len) Q (F0 m (pc + 2) ls (.ref (B + (N + 1)) :: rest))) : W p l e R s m args below meth c H locs cells slots Q (F0 m pc ls (.int x :: rest)) := by
  obtain ⟨hx, hb, hml, hown, hts, hK⟩ := cx
  have hsz : H.size = B + (N + 1) := by have := wz.2.1; omega
  refine va_newaK (atype := .int) hx hb (hts _ hw) rfl hdg rfl hx0 hxl (by show len * componentBytes .int ≤ _; simp [componentBytes]; omega) hcells hslots hsz fun H1 cA e1 z1 o1 hAr hNm => ?_
  refine kk H1 (wo_grow wz (by omega) (fun q hq => o1 q (by omega)) ?_)
  rw [ce_0 (by rw [hs])]
  have hc : G.2.1 0 = cA := Option.some.inj (((hK.2 0 _ rfl).2 : s.vm.findClass _ = some (G.2.1 0)).symm.trans hNm)
  have hz := wz.2.2.1 (N + 1) (by omega)
  show H1[B + (N + 1)]? = some (vp_cell (G.2.1 0) (ln (N + 1), .inl (M.1 (N + 1))))
  rw [e1, hc, hz.1, show ln (N + 1) = len by unfold ln; rw [hs]]
  rfl
theorem z_newZ (cx : Cx p s m args c cc nL own G) (wz : Wz G B N s M H locs) (hw : Cond.arrayClass .boolean ∈ gtbl) {x : Int32} {len : Nat} (hx0 : ¬ x < 0) (hxl : x.toNatClampNeg = len) (hs : sh (N + 1) = (1, len)) (hlen : len ≤ 1000) (hcells : cells + 1 ≤ R.cells) (hslots : slots + len ≤ R.slots) (hdg : decode cc pc = .ok (.newarray .boolean, 2))
    (kk : ∀ H1 : Heap, Wz G B (N + 1) s M H1 locs → W p l e R s m args below meth c H1 locs (cells + 1) (slots + len) Q (F0 m (pc + 2) ls (.ref (B + (N + 1)) :: rest))) : W p l e R s m args below meth c H locs cells slots Q (F0 m pc ls (.int x :: rest)) := by
  obtain ⟨hx, hb, hml, hown, hts, hK⟩ := cx
  have hsz : H.size = B + (N + 1) := by have := wz.2.1; omega
  refine va_newaK (atype := .boolean) hx hb (hts _ hw) rfl hdg rfl hx0 hxl (by show len * componentBytes .boolean ≤ _; simp [componentBytes]; omega) hcells hslots hsz fun H1 cA e1 z1 o1 hAr hNm => ?_
  refine kk H1 (wo_grow wz (by omega) (fun q hq => o1 q (by omega)) ?_)
  rw [ce_1 (by rw [hs])]
  have hc : G.2.1 1 = cA := Option.some.inj (((hK.2 1 _ rfl).2 : s.vm.findClass _ = some (G.2.1 1)).symm.trans hNm)
  have hz := wz.2.2.1 (N + 1) (by omega)
  show H1[B + (N + 1)]? = some (vp_cell (G.2.1 1) (ln (N + 1), .inl (M.1 (N + 1))))
  rw [e1, hc, hz.1, show ln (N + 1) = len by unfold ln; rw [hs]]
  rfl
theorem z_newJ (cx : Cx p s m args c cc nL own G) (wz : Wz G B N s M H locs) (hw : Cond.arrayClass .long ∈ gtbl) {x : Int32} {len : Nat} (hx0 : ¬ x < 0) (hxl : x.toNatClampNeg = len) (hs : sh (N + 1) = (2, len)) (hlen : len ≤ 1000) (hcells : cells + 1 ≤ R.cells) (hslots : slots + len ≤ R.slots) (hdg : decode cc pc = .ok (.newarray .long, 2))
    (kk : ∀ H1 : Heap, Wz G B (N + 1) s M H1 locs → W p l e R s m args below meth c H1 locs (cells + 1) (slots + len) Q (F0 m (pc + 2) ls (.ref (B + (N + 1)) :: rest))) : W p l e R s m args below meth c H locs cells slots Q (F0 m pc ls (.int x :: rest)) := by
  obtain ⟨hx, hb, hml, hown, hts, hK⟩ := cx
  have hsz : H.size = B + (N + 1) := by have := wz.2.1; omega
  refine va_newaK (atype := .long) hx hb (hts _ hw) rfl hdg rfl hx0 hxl (by show len * componentBytes .long ≤ _; simp [componentBytes]; omega) hcells hslots hsz fun H1 cA e1 z1 o1 hAr hNm => ?_
  refine kk H1 (wo_grow wz (by omega) (fun q hq => o1 q (by omega)) ?_)
  rw [ce_2 (by rw [hs])]
  have hc : G.2.1 2 = cA := Option.some.inj (((hK.2 2 _ rfl).2 : s.vm.findClass _ = some (G.2.1 2)).symm.trans hNm)
  have hz := wz.2.2.1 (N + 1) (by omega)
  show H1[B + (N + 1)]? = some (vp_cell (G.2.1 2) (ln (N + 1), .inr (.inl (M.2.1 (N + 1)))))
  rw [e1, hc, hz.2.1, show ln (N + 1) = len by unfold ln; rw [hs]]
  rfl
theorem z_newR (cx : Cx p s m args c cc nL own G) (wz : Wz G B N s M H locs) (hcl : Cond.classLink own idx "BumpsRiver$River" ∈ gtbl) {x : Int32} {len : Nat} (hx0 : ¬ x < 0) (hxl : x.toNatClampNeg = len) (hs : sh (N + 1) = (3, len)) (hlen : len ≤ 1000) (hcells : cells + 1 ≤ R.cells) (hslots : slots + len ≤ R.slots) (hdg : decode cc pc = .ok (.anewarray idx, 3))
    (kk : ∀ H1 : Heap, Wz G B (N + 1) s M H1 locs → W p l e R s m args below meth c H1 locs (cells + 1) (slots + len) Q (F0 m (pc + 3) ls (.ref (B + (N + 1)) :: rest))) : W p l e R s m args below meth c H locs cells slots Q (F0 m pc ls (.int x :: rest)) := by
  obtain ⟨hx, hb, hml, hown, hts, hK⟩ := cx
  have hsz : H.size = B + (N + 1) := by have := wz.2.1; omega
  subst hxl
  refine W.anew hx hb hown (hts _ hcl) (va_AO.use wz.2.2.2.1) rfl hdg rfl hx0 (by omega) hcells hslots fun cA kA comp f1 f2 f3 f4 => ?_
  have hat : ∀ y : Cell, (H.push y)[B + (N + 1)]? = some y := fun y => by rw [← hsz]; exact Array.getElem?_push_size
  rw [hsz]
  refine kk _ (wo_grow wz (Array.size_push _) (fun q hq => Array.getElem?_push_lt hq ▸ (Array.getElem?_eq_getElem hq).symm) ?_)
  rw [ce_3 (by rw [hs])]
  have hc : G.2.1 3 = cA := by
    obtain ⟨-, -, -, -, -, h9⟩ := (hK.2 3 _ rfl).2
    exact Option.some.inj (h9.symm.trans f1)
  have hz := wz.2.2.1 (N + 1) (by omega)
  show (H.push _)[B + (N + 1)]? = some (vp_cell (G.2.1 3) (ln (N + 1), .inr (.inr (.inr (.inr fun i => rv B (M.2.2 (N + 1) i))))))
  rw [hat, arrV_new, hc, hz.2.2, show ln (N + 1) = x.toNatClampNeg by unfold ln; rw [hs]]
  rfl
theorem z_keep {v : Int32} {i : Nat} (hz : Zr N M) (ha : a ≤ N) : Zr N (sI M a i v) := hz.sI ha
/-! a row that makes no cell keeps the heap's size: the count of cells, drawn tight, says so -/
theorem w_tight {g : JFrame} (h : ∀ k9, k9 ≤ cells → s.heap.size + k9 = H.size → W p l e R s m args below meth c H locs k9 slots Q g) : W p l e R s m args below meth c H locs cells slots Q g := by
  intro T hT X
  have h2 : s.heap.size ≤ T.heap.size := X.same.2.1
  have h3 : T.heap.size ≤ s.heap.size + cells := X.same.2.2.1
  rw [hT] at h2 h3
  have h4 : s.heap.size + (H.size - s.heap.size) = H.size := by omega
  exact h (H.size - s.heap.size) (by omega) h4 T hT { X with same := ⟨X.same.1, X.same.2.1, (by show T.heap.size ≤ _; rw [hT, h4]; exact Nat.le_refl _), X.same.2.2.2⟩ }
theorem w_same {g : JFrame} {H1 : Heap} {locs1 : List Loc} {k9 : Nat} (hk : k9 ≤ cells) (h0 : s.heap.size + k9 = H.size) (h1 : H.size ≤ H1.size) (kk : H1.size = H.size → W p l e R s m args below meth c H1 locs1 cells slots Q g) : W p l e R s m args below meth c H1 locs1 k9 slots Q g := by
  intro T hT X
  have h3 : T.heap.size ≤ s.heap.size + k9 := X.same.2.2.1
  rw [hT] at h3
  exact kk (by omega) T hT (stand_widen X hk (Nat.le_refl _))
theorem vs_self {A : Nat → Prop} {H0 : Heap} (h : va_S A H0 H locs) : va_S A H H locs := ⟨Nat.le_refl _, fun _ _ _ => rfl, h.2.2⟩
theorem vs_trans {A : Nat → Prop} {H0 H1 : Heap} {locs1 : List Loc} (h : va_S A H0 H locs) (h' : va_S A H H1 locs1) : va_S A H0 H1 locs1 := ⟨Nat.le_trans h.1 h'.1, fun q hq hA => (h'.2.1 q (Nat.lt_of_lt_of_le hq h.1) hA).trans (h.2.1 q hq hA), h'.2.2⟩
theorem z_putI (cx : Cx p s m args c cc nL own G) (wz : Wz G B N s M H locs) (h0 : a ≠ 0) (hN : a ≤ N) (hs : (sh a).1 = ci + 10) {ty : FieldType} (fp : FP own idx ci k 0 false ty) {x : Int32} (hn : narrow ty (.int x) = .int x) (hf : fits ty (.int x) = true) (hdg : decode cc pc = .ok (.putfield idx, 3))
    (kk : ∀ (H1 : Heap) (locs1 : List Loc), Wz G B N s (sI M a k x) H1 locs1 → W p l e R s m args below meth c H1 locs1 cells slots Q (F0 m (pc + 3) ls rest)) : W p l e R s m args below meth c H locs cells slots Q (F0 m pc ls (.int x :: .ref (B + a) :: rest)) := by
  obtain ⟨hx, hb, hml, hown, hts, hK⟩ := cx
  obtain ⟨C, T, n, ty0, h1, h2, h3, h4, h5, h6, h7, h8, h9⟩ := fp
  obtain ⟨wo, hsz, hZ, hA⟩ := wz
  have hk : k < (fks ci).length := (List.getElem?_eq_some_iff.mp h5).1
  refine w_tight fun k9 hk9 e9 => va_put hx hb hts h4 ty0 h6 h7 hown hK wo.1 wl_D (vs_self wo.2.1) (a - 1) (by rw [wl_get h0 hN, ce_o hs]) h1 k h2 (hts _ h3) (fun _ h => h) h8 (ty := ty) (by rw [h6 k h2, h9]) hn hf (by rw [oF_len]; exact hk) hdg (fun H1 locs1 p1 _ s1 => w_same hk9 e9 s1.1 fun z1 => kk H1 locs1 ⟨⟨?_, vs_trans wo.2.1 s1, wo.2.2⟩, by omega, hZ.sI hN, hA⟩)
  rwa [wl_set h0 hN (M' := sI M a k x) (fun j h => ce_sI h) (by rw [ce_o hs, oF_setI _ h5])] at p1
theorem z_putR (cx : Cx p s m args c cc nL own G) (wz : Wz G B N s M H locs) (h0 : a ≠ 0) (hN : a ≤ N) (hs : (sh a).1 = ci + 10) {ty : FieldType} (fp : FP own idx ci k 1 false ty) {v : Nat} (hv0 : v ≠ 0) (hn : ∀ q : Nat, narrow ty (.ref q) = .ref q) (hf : ∀ q : Nat, fits ty (.ref q) = true) (hdg : decode cc pc = .ok (.putfield idx, 3))
    (kk : ∀ (H1 : Heap) (locs1 : List Loc), Wz G B N s (sR M a k v) H1 locs1 → W p l e R s m args below meth c H1 locs1 cells slots Q (F0 m (pc + 3) ls rest)) : W p l e R s m args below meth c H locs cells slots Q (F0 m pc ls (.ref (B + v) :: .ref (B + a) :: rest)) := by
  obtain ⟨hx, hb, hml, hown, hts, hK⟩ := cx
  obtain ⟨C, T, n, ty0, h1, h2, h3, h4, h5, h6, h7, h8, h9⟩ := fp
  obtain ⟨wo, hsz, hZ, hA⟩ := wz
  have hk : k < (fks ci).length := (List.getElem?_eq_some_iff.mp h5).1
  refine w_tight fun k9 hk9 e9 => va_put hx hb hts h4 ty0 h6 h7 hown hK wo.1 wl_D (vs_self wo.2.1) (a - 1) (by rw [wl_get h0 hN, ce_o hs]) h1 k h2 (hts _ h3) (fun _ h => h) h8 (ty := ty) (by rw [h6 k h2, h9]) (hn _) (hf _) (by rw [oF_len]; exact hk) hdg (fun H1 locs1 p1 _ s1 => w_same hk9 e9 s1.1 fun z1 => kk H1 locs1 ⟨⟨?_, vs_trans wo.2.1 s1, wo.2.2.1, trivial, wo.2.2.2.2⟩, by omega, hZ.sR hN, hA⟩)
  rwa [wl_set h0 hN (M' := sR M a k v) (fun j h => ce_sR h) (by rw [ce_o hs, oF_setR _ h5 hv0])] at p1
theorem z_putF (cx : Cx p s m args c cc nL own G) (wz : Wz G B N s M H locs) (h0 : a ≠ 0) (hN : a ≤ N) (hs : (sh a).1 = ci + 10) {ty : FieldType} (fp : FP own idx ci k 1 true ty) (hin2 : meth.name = "<init>") (hde : ∀ (C : String) (T : u_T) (n : Nat), vwCl[ci]? = some (C, T, n) → (T k).1 = own) {v : Nat} (hv0 : v ≠ 0) (hn : ∀ q : Nat, narrow ty (.ref q) = .ref q) (hf : ∀ q : Nat, fits ty (.ref q) = true) (hdg : decode cc pc = .ok (.putfield idx, 3))
    (kk : ∀ (H1 : Heap) (locs1 : List Loc), Wz G B N s (sR M a k v) H1 locs1 → W p l e R s m args below meth c H1 locs1 cells slots Q (F0 m (pc + 3) ls rest)) : W p l e R s m args below meth c H locs cells slots Q (F0 m pc ls (.ref (B + v) :: .ref (B + a) :: rest)) := by
  obtain ⟨hx, hb, hml, hown, hts, hK⟩ := cx
  obtain ⟨C, T, n, ty0, h1, h2, h3, h4, h5, h6, h7, h8, h9⟩ := fp
  obtain ⟨wo, hsz, hZ, hA⟩ := wz
  have hk : k < (fks ci).length := (List.getElem?_eq_some_iff.mp h5).1
  refine w_tight fun k9 hk9 e9 => va_putF hx hb hts h4 ty0 h6 h7 hown hK wo.1 wl_D (vs_self wo.2.1) (a - 1) (by rw [wl_get h0 hN, ce_o hs]) h1 k h2 (hts _ h3) (fun _ h => h) h8 hin2 (hde _ _ _ h1) (ty := ty) (by rw [h6 k h2, h9]) (hn _) (hf _) (by rw [oF_len]; exact hk) hdg (fun H1 locs1 p1 _ s1 => w_same hk9 e9 s1.1 fun z1 => kk H1 locs1 ⟨⟨?_, vs_trans wo.2.1 s1, wo.2.2.1, trivial, wo.2.2.2.2⟩, by omega, hZ.sR hN, hA⟩)
  rwa [wl_set h0 hN (M' := sR M a k v) (fun j h => ce_sR h) (by rw [ce_o hs, oF_setR _ h5 hv0])] at p1
theorem z_iast (cx : Cx p s m args c cc nL own G) (wz : Wz G B N s M H locs) (h0 : a ≠ 0) (hN : a ≤ N) (hs : (sh a).1 = 0) {i x : Int32} (hin : inb i (ln a) = true) (hdg : decode cc pc = .ok (.iastore, 1))
    (kk : ∀ (H1 : Heap) (locs1 : List Loc), Wz G B N s (sI M a (ix i) x) H1 locs1 → W p l e R s m args below meth c H1 locs1 cells slots Q (F0 m (pc + 1) ls rest)) : W p l e R s m args below meth c H locs cells slots Q (F0 m pc ls (.int x :: .int i :: .ref (B + a) :: rest)) := by
  obtain ⟨hx, hb, hml, hown, hts, hK⟩ := cx
  obtain ⟨wo, hsz, hZ, hA⟩ := wz
  have ha : (wl G B N M)[a - 1]? = some (B + a, .inl (G.2.1 0, ln a, .inl (M.1 a))) := by rw [wl_get h0 hN, ce_0 hs]
  refine W.iast hx hb (wo.1 (a - 1) _ ha) ((hK.2 0 _ rfl).1 (ln a) (fun j => .int (M.1 a j))) (fun q => by cases q) (by show ¬ (i < 0 ∨ (arrV _ _ _).slots.size ≤ _); rw [arrV_size]; exact inb_vp hin) rfl rfl hdg fun H1 e z oq => ?_
  refine kk H1 _ ⟨⟨?_, wo.2.1.put z oq (by show B < B + a; omega), wo.2.2⟩, by omega, hZ.sI hN, hA⟩
  rw [← wl_set h0 hN (M := M) (M' := sI M a (ix i) x) (fun j h => ce_sI h) rfl]
  refine wo.1.set wl_D ha ?_ oq
  rw [ce_0 hs]
  show H1[B + a]? = some (vp_cell _ _)
  rw [e, vp_cell_i, vp_cell_i, arrV_store]
  congr 2
  funext q
  by_cases hq : q = i.toNatClampNeg
  · subst hq
    simp [updV, sI, up2, ix]
  · simp [updV, sI, up2, ix, hq]
theorem z_aast (cx : Cx p s m args c cc nL own G) (wz : Wz G B N s M H locs) (h0 : a ≠ 0) (hN : a ≤ N) (hs : (sh a).1 = 3) {i : Int32} {v : Nat} (hin : inb i (ln a) = true) (hv0 : v ≠ 0) (hvN : v ≤ N) (hvs : (sh v).1 = 4 + 10) (hdg : decode cc pc = .ok (.aastore, 1))
    (kk : ∀ (H1 : Heap) (locs1 : List Loc), Wz G B N s (sR M a (ix i) v) H1 locs1 → W p l e R s m args below meth c H1 locs1 cells slots Q (F0 m (pc + 1) ls rest)) : W p l e R s m args below meth c H locs cells slots Q (F0 m pc ls (.ref (B + v) :: .int i :: .ref (B + a) :: rest)) := by
  obtain ⟨hx, hb, hml, hown, hts, hK⟩ := cx
  obtain ⟨wo, hsz, hZ, hA⟩ := wz
  have hi := inb_vp hin
  have hlt : i.toNatClampNeg < ln a := Nat.not_le.mp fun q => hi (Or.inr q)
  have hi0 : ¬ i < 0 := fun q => hi (Or.inl q)
  have ha : (wl G B N M)[a - 1]? = some (B + a, .inl (G.2.1 3, ln a, .inr (.inr (.inr (.inr fun i => rv B (M.2.2 a i)))))) := by rw [wl_get h0 hN, ce_3 hs]
  obtain ⟨r', hr', cellV, g1, g2, g3, -⟩ := wo.1 (v - 1) (B + v, .inr (4, oF B M v 0 (fks 4))) (by rw [wl_get hv0 hvN, ce_o hvs])
  have hcls := (hK.1 4 (RX4, TX4, 9) rfl).2
  obtain ⟨kA, comp, k1, k2, k3, -⟩ := (hK.2 3 (G.2.1 3, .object "BumpsRiver$River") rfl).2
  have hcomp : comp = G.1.1 4 := Option.some.inj (k3.symm.trans hcls.1)
  subst hcomp
  obtain ⟨kC, hkC, -⟩ := hcls.2
  refine W.aast hx hb (wo.1 (a - 1) _ ha) (fun q h => by cases h) (fun h => by cases h) k1 k2 rfl hkC ⟨hi0, by show _ < (arrV _ _ _).slots.size; rw [arrV_size]; exact hlt⟩ g1 (fun q h => by rw [g3] at h; cases h) (by rw [g2]; exact hkC) (by rw [g2]; exact va_assign hcls) rfl rfl hdg fun H1 e z oq => ?_
  refine kk H1 _ ⟨⟨?_, wo.2.1.put z oq (by show B < B + a; omega), wo.2.2.1, trivial, wo.2.2.2.2⟩, by omega, hZ.sR hN, hA⟩
  rw [← wl_set h0 hN (M := M) (M' := sR M a (ix i) v) (fun j h => ce_sR h) rfl]
  refine wo.1.set wl_D ha ?_ oq
  rw [ce_3 hs]
  show H1[B + a]? = some (vp_cell _ _)
  rw [e, vp_cell_q, vp_cell_q, arrV_store]
  congr 2
  funext q
  by_cases hq : q = i.toNatClampNeg
  · subst hq
    simp [updV, sR, up2, ix, rv_pos hv0, va_rf]
  · simp [updV, sR, up2, ix, hq]
theorem z_objInit (cx : Cx p s m args c cc nL own G) (hls : ls.size = nL) (hlink : Cond.methodLink own idx Lib.objectInit ∈ gtbl) (hin : Cond.instanceMethod Lib.objectInit ∈ gtbl) (hco : Cond.code Lib.objectInit ⟨#[0xb1]⟩ 1 none ∈ gtbl) (hrest : (rest.map fun v => v.category).sum ≤ 8) (hR : 1 ≤ R.frames ∧ 64 ≤ R.locals) (hdg : decode cc pc = .ok (.invokespecial idx, 3))
    (kk : W p l e R s m args below meth c H locs cells slots Q (F0 m (pc + 3) ls rest)) : W p l e R s m args below meth c H locs cells slots Q (F0 m pc ls (.ref a :: rest)) :=
  W.objInit cx.1 cx.2.1 cx.2.2.2.1 (cx.2.2.2.2.1 _ hlink) (cx.2.2.2.2.1 _ hin) (cx.2.2.2.2.1 _ hco) rfl (by show ls.size = c.maxLocals; rw [hls, cx.2.2.1]) rfl hdg hR.1 (by have := lv_room (m := m) (pc := pc) (ls := ls) (rest := .ref a :: rest) hrest; omega) kk
def CI (own : String) (idx : Nat) (y : MethodName) (bytes : ByteArray) (maxL : Nat) (n : Nat) : Prop :=
  Cond.methodLink own idx y ∈ gtbl ∧ Cond.instanceMethod y ∈ gtbl ∧ y.name = "<init>" ∧ Cond.initialized y.cls ∈ gtbl ∧ Cond.code y bytes maxL none ∈ gtbl ∧ (y.cls ≠ "java/lang/invoke/MethodHandle" ∧ y.cls ≠ "java/lang/invoke/VarHandle" ∧ (parseMethodDescriptor y.desc).map (fun d => d.parameters.length) = some n) ∧ maxL ≤ 45
theorem blind_Z {av : List Value} : FrameBlind (PcZ G B N M av) := by
  intro a U g mk q
  obtain ⟨q0, ⟨qP, qK, qF, qE⟩, qB, qZ, qA⟩ := q
  exact ⟨q0, ⟨qP, va_K.moved (u := U) (U := U.calling g mk a) (Vm.Alike.refl U.vm) qK, qF, ex_call g mk a qE⟩, qB, qZ, qA.moved (Vm.Alike.refl U.vm)⟩
theorem z_init {N' mc ms : Nat} (cx : Cx p s m args c cc nL own G) (wz : Wz G B N s M H locs) (hM : Met l y (wsG y bytes maxL none) (rmZ k mc ms) (PcZ G B N M (.ref (B + a) :: As)) (QcZ G B N' M') mc ms (fr B)) (ci : CI own idx y bytes maxL n) (hn : As.length = n) (hls : ls.size = nL) (hst : st = As.reverse ++ .ref (B + a) :: rest) (hrest : (rest.map fun v => v.category).sum ≤ 8) (hR : k + 1 ≤ R.frames ∧ 64 * (k + 1) ≤ R.locals ∧ cells + mc ≤ R.cells ∧ slots + ms ≤ R.slots) (hdg : decode cc pc = .ok (.invokespecial idx, 3))
    (kk : ∀ (H1 : Heap) (locs1 : List Loc), Wz G B N' s M' H1 locs1 → W p l e R s m args below meth c H1 locs1 (cells + mc) (slots + ms) Q (F0 m (pc + 3) ls rest)) : W p l e R s m args below meth c H locs cells slots Q (F0 m pc ls st) := by
  obtain ⟨hx, hb, hml, hown, hts, hK⟩ := cx
  obtain ⟨c1, c2, c3, c4, c5, c6, c7⟩ := ci
  obtain ⟨wo, hsz, hZ, hA⟩ := wz
  refine va_callv (va_runI (own := own) (index := idx) (y := y) (bytes := bytes) (maxL := maxL) (n := n) (As := As) (rest := rest) (b := B + a) ⟨hx, hb, hml, hown, hts⟩ hM ⟨callB_of n hts (goodIn_g c5) rfl rfl rfl (hts _ c4) (hts _ c1) c6 ⟨hR.1, by have := hR.2.1; show 8 + (maxL + 11) + 64 * k ≤ R.locals; omega⟩, c3, hts _ c2⟩ ⟨blind_Z, fun U hU hW => ⟨rfl, ⟨by rw [hU]; exact wo.1, va_K.moved hW.alike hK, trivial, ex_go wo.2.2.2.2 wo.2.1 hU hW⟩, by rw [hU]; exact hsz, hZ, hA.moved hW.alike⟩⟩ rfl hn hls hst (lv_room hrest) hdg ⟨hR.2.2.1, hR.2.2.2⟩) wo.2.1 (fun q _ h => h) (fun q h => h) (fun u t H1 locs1 ht hvm hw hB hz hk hS => kk H1 locs1 ⟨⟨by rw [← ht]; exact hB.1.1, hS, wo.2.2.1, trivial, wo.2.2.2.2⟩, by rw [← ht]; exact hB.2.1, hB.2.2, hA⟩)
theorem z_vret (cx : Cx p s m args c cc nL own G) (wz : Wz G B N s M H locs) (hr : meth.sig.returnType = none) (hlk : meth.locks = false) (hdg : decode cc pc = .ok (.return_, 1)) : W p l e R s m args below meth c H locs cells slots (MQ below (QcZ G B N M) args s cells slots (fr B)) (F0 m pc ls []) :=
  W.vret cx.1 cx.2.1 hr (fun t ht hW => ⟨⟨(), rfl, trivial, wo_BW cx wz.1 ht hW, by rw [ht]; exact wz.2.1, wz.2.2.1⟩, wz.1.2.1.F ht⟩) wz.1.2.1.2.2 hdg
theorem mk_MetZ {mc ms : Nat} {av : List Value} {Qc : Array Value → State → Outcome → State → Prop} (hy : plainName y.cls = true) (ho : y.cls = own) (hlen : (lg_sl av).length ≤ maxL)
    (body : ∀ (p : Program) (e : Env) (s : State) (m : MethodId) (below : List Frame) (meth : Method) (c : Code) (ls : Array Slot), Cx p s m av.toArray c bytes maxL own G → meth.sig.returnType = none → meth.locks = false → meth.name = y.name → Wz G B N s M s.heap [] → lv_has ls maxL (lv_args 0 av) → W p l e (rmZ k mc ms) s m av.toArray below meth c s.heap [] 0 0 (MQ below Qc av.toArray s mc ms (fr B)) (F0 m 0 ls [])) :
    Met l y (wsG y bytes maxL none) (rmZ k mc ms) (PcZ G B N M av) Qc mc ms (fr B) := by
  refine Met.ofW (cc := bytes) (maxL := maxL) (ret := none) hy rfl ?_
  intro p e s m args below meth c s₁ B' hml hv
  obtain ⟨rfl, ⟨hP, hK, hF, hE⟩, hB, hZ, hA⟩ := hv
  have hx := B'.exec
  have hb := B'.bytes
  have hr := B'.returns
  have hts := wsG_ok (atoms_spec (ws := wsG y bytes maxL none) B'.pre)
  have hown : s.vm.findClass own = some m.cls := by rw [← ho]; exact findClass_of_methodNamed B'.named
  have hlocks := B'.notSynchronized
  have hnm : meth.name = y.name := (name_of_methodNamed B'.named B'.method).1
  have hl := lv_entry av (n := maxL) hlen
  rw [lg_entry_eq]
  exact body p e s m below meth c _ ⟨hx, hb, hml, hown, hts, hK⟩ hr hlocks hnm ⟨⟨hP, va_S.rf, by omega, hF, hE⟩, hB, hZ, hA⟩ hl
theorem z_Vv {N' : Nat} {ret : Option FieldType} (cx : Cx p s m args c cc nL own G) (wz : Wz G B N s M H locs) (hM : Met l y (wsG y bytes maxL ret) (rmZ k 0 0) (PcZ G B N M (.ref (B + a) :: As)) (QcZ G B N' M') 0 0 (fr B)) (cv : CV own idx y bytes maxL ret n) (hn : As.length = n) (h0 : a ≠ 0) (hN : a ≤ N) (hs : (sh a).1 = ci + 10) {q : vw_C} (hc : vwCl[ci]? = some q) (hq : q.1 = y.cls) (hls : ls.size = nL) (hst : st = As.reverse ++ .ref (B + a) :: rest) (hrest : (rest.map fun v => v.category).sum ≤ 8) (hR : k + 1 ≤ R.frames ∧ 64 * (k + 1) ≤ R.locals ∧ cells ≤ R.cells ∧ slots ≤ R.slots) (hdg : decode cc pc = .ok (.invokevirtual idx, 3))
    (kk : ∀ (H1 : Heap) (locs1 : List Loc), Wz G B N' s M' H1 locs1 → W p l e R s m args below meth c H1 locs1 cells slots Q (F0 m (pc + 3) ls rest)) : W p l e R s m args below meth c H locs cells slots Q (F0 m pc ls st) := by
  obtain ⟨hx, hb, hml, hown, hts, hK⟩ := cx
  obtain ⟨c1, c2, c3, c4, c5, c6, c7⟩ := cv
  obtain ⟨wo, hsz, hZ, hA⟩ := wz
  refine va_callv (va_runV (own := own) (C := y.cls) (index := idx) (y := y) (bytes := bytes) (maxL := maxL) (ret := ret) (n := n) (As := As) (rest := rest) (b := B + a) ⟨hx, hb, hml, hown, hts⟩ hM ?_ ⟨blind_Z, ?_, fun U hU hW => ⟨rfl, ⟨by rw [hU]; exact wo.1, va_K.moved hW.alike hK, trivial, ex_go wo.2.2.2.2 wo.2.1 hU hW⟩, by rw [hU]; exact hsz, hZ, hA.moved hW.alike⟩⟩ rfl hn hls hst (lv_room hrest) hdg ⟨hR.2.2.1, hR.2.2.2⟩) wo.2.1 (fun q _ h => h) (fun q h => h) (fun u t H1 locs1 ht hvm hw hB hz hk hS => kk H1 locs1 ⟨⟨by rw [← ht]; exact hB.1.1, hS, wo.2.2.1, trivial, wo.2.2.2.2⟩, by rw [← ht]; exact hB.2.1, hB.2.2, hA⟩)
  · exact ⟨callB_of n hts (goodIn_g c5) rfl rfl rfl (hts _ c4) (hts _ c1) c6 ⟨hR.1, by have := hR.2.1; show 8 + (maxL + 11) + 64 * k ≤ R.locals; omega⟩, hts _ c2, hts _ c3⟩
  · obtain ⟨cell, g1, g2, g3⟩ := va_recv hK wo.1 hc (q0 := a - 1) (by rw [wl_get h0 hN, ce_o hs])
    exact ⟨cell, g1, g2, by rw [← hq]; exact g3⟩
end Make
/-! new int[n][k]: the heap behind i of its rows, told at once -/
def mnO (c : ClassId) (n h0 i : Nat) : Cell := arrV c n (fun j => if j < i then .ref (h0 + 1 + j) else .null)
def mnI (c : ClassId) (k : Nat) : Cell := arrV c k (fun _ => .int 0)
def mnS (S : State) (c comp : ClassId) (n k i : Nat) : State := { S with heap := S.heap ++ (#[mnO c n S.heap.size i] ++ Array.replicate i (mnI comp k)), slotsUsed := S.slotsUsed + n + i * k }
theorem arrV_const (c : ClassId) (n : Nat) (v : Value) : arrV c n (fun _ => v) = { cls := c, slots := Array.replicate n v, vm := .none } := (arrV_new c n v).symm
section Rows
variable {S : State} {c comp : ClassId} {n k i : Nat}
theorem mn_heap : (mnS S c comp n k i).heap = S.heap ++ (#[mnO c n S.heap.size i] ++ Array.replicate i (mnI comp k)) := rfl
theorem mn_size : (mnS S c comp n k i).heap.size = S.heap.size + 1 + i := by
  rw [mn_heap, Array.size_append, Array.size_append, Array.size_replicate]
  show S.heap.size + (1 + i) = _
  omega
theorem mn_old {a : Nat} (h : a < S.heap.size) : (mnS S c comp n k i).heap[a]? = S.heap[a]? := by rw [mn_heap, Array.getElem?_append_left h]
theorem mn_top : (mnS S c comp n k i).heap[S.heap.size]? = some (mnO c n S.heap.size i) := by
  rw [mn_heap, Array.getElem?_append_right (Nat.le_refl _), Nat.sub_self, Array.getElem?_append_left (by simp)]
  rfl
theorem mn_in {j : Nat} (h : j < i) : (mnS S c comp n k i).heap[S.heap.size + 1 + j]? = some (mnI comp k) := by
  rw [mn_heap, Array.getElem?_append_right (by omega), show S.heap.size + 1 + j - S.heap.size = 1 + j by omega, Array.getElem?_append_right (by simp), show 1 + j - (#[mnO c n S.heap.size i] : Array Cell).size = j by simp, Array.getElem?_replicate, if_pos h]
theorem mn_off {a : Nat} (h : S.heap.size + 1 + i ≤ a) : (mnS S c comp n k i).heap[a]? = none := Array.getElem?_eq_none (by rw [mn_size]; exact h)
theorem mn_zero : S.pushCell { cls := c, slots := Array.replicate n .null, vm := .none } = mnS S c comp n k 0 := by
  have e1 : mnO c n S.heap.size 0 = { cls := c, slots := Array.replicate n .null, vm := .none } := by
    unfold mnO
    simp only [Nat.not_lt_zero, if_false]
    exact arrV_const c n .null
  unfold mnS State.pushCell
  rw [e1]
  simp
theorem mnO_next (h : i < n) (h0 : Nat) : (mnO c n h0 i).setSlot i (.ref (h0 + 1 + i)) = mnO c n h0 (i + 1) := by
  unfold mnO Cell.setSlot arrV
  congr 1
  refine Array.ext_getElem? fun j => ?_
  rw [Array.getElem?_setIfInBounds]
  by_cases hj : j < n
  · by_cases hij : i = j
    · subst hij
      simp [hj]
    · have e1 : (j < i + 1) = (j < i) := propext ⟨fun _ => by omega, fun _ => by omega⟩
      simp [hj, hij, e1]
  · have : i ≠ j := by omega
    simp [hj, this]
theorem mn_next (h : i < n) : ((mnS S c comp n k i).pushCell (mnI comp k)).setCell S.heap.size (mnO c n S.heap.size (i + 1)) = mnS S c comp n k (i + 1) := by
  have e1 : (mnS S c comp n k i).slotsUsed + (mnI comp k).slots.size = S.slotsUsed + n + (i + 1) * k := by
    rw [show (mnI comp k).slots.size = k from arrV_size _ _ _, Nat.succ_mul]
    show S.slotsUsed + n + i * k + k = _
    omega
  have e2 : (((mnS S c comp n k i).heap.push (mnI comp k)).setIfInBounds S.heap.size (mnO c n S.heap.size (i + 1))) = (mnS S c comp n k (i + 1)).heap := by
    refine Array.ext_getElem? fun a => ?_
    rw [Array.getElem?_setIfInBounds, Array.size_push, mn_size, Array.getElem?_push, mn_size]
    rcases Nat.lt_trichotomy a S.heap.size with ha | ha | ha
    · rw [if_neg (by omega), if_neg (by omega), mn_old ha, mn_old ha]
    · subst ha
      rw [if_pos rfl, if_pos (by omega), mn_top]
    · obtain ⟨j, rfl⟩ : ∃ j, a = S.heap.size + 1 + j := ⟨a - (S.heap.size + 1), by omega⟩
      rw [if_neg (by omega)]
      rcases Nat.lt_trichotomy j i with hj | hj | hj
      · rw [if_neg (by omega), mn_in hj, mn_in (by omega)]
      · subst hj
        rw [if_pos rfl, mn_in (by omega)]
      · rw [if_neg (by omega), mn_off (by omega), mn_off (by omega)]
  show ({ S with heap := ((mnS S c comp n k i).heap.push (mnI comp k)).setIfInBounds S.heap.size (mnO c n S.heap.size (i + 1)), slotsUsed := (mnS S c comp n k i).slotsUsed + (mnI comp k).slots.size } : State) = _
  rw [e1, e2]
  rfl
theorem mn_setTop (f : JFrame) (hs : S.topJava?.isSome) : mnS (S.setTop f) c comp n k i = (mnS S c comp n k i).setTop f := by
  obtain ⟨g0, hg0⟩ := Option.isSome_iff_exists.mp hs
  obtain ⟨F, hF⟩ := State.topJava?_eq_some.mp hg0
  rw [State.setTop_of_frames _ hF, State.setTop_of_frames (s := mnS S c comp n k i) _ (show (mnS S c comp n k i).frames = _ from hF)]
  rfl
end Rows
section Make2
variable {E : CtlPost} {e : Env} {d : Bool} {acts : List Action} {S : State}
theorem mn_new {c cc : ClassId} {kc : Class} {ty : FieldType} {len : Nat} {v : Value} (hk : S.vm.classes[c]? = some kc) (hkd : kc.kind = .array cc ty) (hl : len ≤ e.platform.arrayLengthLimit) (hh : len * componentBytes ty ≤ e.platform.maxHeapBytes) (hc : S.heap.size < e.platform.maxCells) (hs : S.slotsUsed + len ≤ e.platform.maxSlots)
    (hf : fits ty v = true) {Q : Addr → Pre} (hQ : ∀ acts', Q S.heap.size d acts' (S.pushCell { cls := c, slots := Array.replicate len v, vm := .none })) : wp (Jvm.newArray c len v) Q E e d acts S := by
  unfold Jvm.newArray Jvm.arrayFits
  have h3 : ¬ len > e.platform.maxSlots := by omega
  simp [hk, hkd, Nat.not_lt.mpr hl, Nat.not_lt.mpr hh, h3, hc, hs, hQ]
  intro j x hx
  rw [Array.getElem?_replicate] at hx
  split at hx
  · cases hx
    simp [State.fitsSlot, State.slotType?, hk, hkd, hf]
  · cases hx
theorem mn_row {comp cc : ClassId} {kc : Class} {k : Int32} (hkc : S.vm.classes[comp]? = some kc) (hC : kc.kind = .array cc .int) (hk0 : ¬ k < 0) (hl : k.toNatClampNeg ≤ e.platform.arrayLengthLimit) (hh : k.toNatClampNeg * componentBytes .int ≤ e.platform.maxHeapBytes)
    (hc : S.heap.size < e.platform.maxCells) (hs : S.slotsUsed + k.toNatClampNeg ≤ e.platform.maxSlots) {Q : Addr → Pre} (hQ : ∀ acts', Q S.heap.size d acts' (S.pushCell (mnI comp k.toNatClampNeg))) : wp (Op.multianewarray.make comp [k]) Q E e d acts S := by
  unfold mnI at hQ
  rw [arrV_const] at hQ
  rw [Op.multianewarray.make]
  simp only [wp_bind', W.ite, hk0, if_false, W.theClass, hkc, hC, Option.some.injEq, exists_eq_left', wp_pure']
  exact mn_new hkc hC hl hh hc hs rfl hQ
theorem mn_make {c comp cc : ClassId} {kA kc : Class} {n k : Int32} (hkA : S.vm.classes[c]? = some kA) (hA : kA.kind = .array comp (.array .int)) (hkc : S.vm.classes[comp]? = some kc) (hC : kc.kind = .array cc .int) (hn0 : ¬ n < 0) (hk0 : ¬ k < 0)
    (hb1 : n.toNatClampNeg ≤ 1000) (hb2 : k.toNatClampNeg ≤ 1000) (hl : 1000 ≤ e.platform.arrayLengthLimit) (hh : 8000 ≤ e.platform.maxHeapBytes)
    (hc : S.heap.size + (1 + n.toNatClampNeg) ≤ e.platform.maxCells) (hs : S.slotsUsed + (n.toNatClampNeg + n.toNatClampNeg * k.toNatClampNeg) ≤ e.platform.maxSlots)
    {Q : Addr → Pre} (hQ : ∀ d' acts', Q S.heap.size d' acts' (mnS S c comp n.toNatClampNeg k.toNatClampNeg n.toNatClampNeg)) : wp (Op.multianewarray.make c [n, k]) Q E e d acts S := by
  have hfk : List.find? (fun x : Int32 => decide (x < 0)) [k] = none := by simp [hk0]
  rw [Op.multianewarray.make]
  simp only [wp_bind', W.ite, hn0, if_false, W.theClass, hkA, hA, Option.some.injEq, exists_eq_left', wp_pure']
  refine mn_new hkA hA (by omega) (by show n.toNatClampNeg * 4 ≤ _; omega) (by omega) (by omega) rfl fun acts1 => ?_
  rw [mn_zero (comp := comp) (k := k.toNatClampNeg)]
  simp only [hfk, ite_self, wp_bind', Std.Legacy.Range.forIn_eq_forIn_range']
  generalize hN : n.toNatClampNeg = N at hb1 hc hs hQ ⊢
  generalize hK : k.toNatClampNeg = K at hb2 hs hQ ⊢
  have hr : List.range' (0 : Nat) N 1 = List.range' 0 N := rfl
  refine wp_forIn_inv (fun rest s' => ∃ i, i + rest.length = N ∧ rest = List.range' i rest.length ∧ s' = mnS S c comp N K i) _ _ ⟨0, by simp [Std.Legacy.Range.size], by simp [Std.Legacy.Range.size], rfl⟩ ?_ ?_
  · rintro x rest s' d' acts' Q' ⟨i, h1, h2, rfl⟩ hq
    rw [List.length_cons, List.range'_succ, List.cons.injEq] at h2
    obtain ⟨rfl, h2⟩ := h2
    rw [List.length_cons] at h1
    have hi : x < N := by omega
    have hm : (x + 1) * K ≤ N * K := Nat.mul_le_mul_right K hi
    rw [Nat.succ_mul] at hm
    simp only [wp_bind']
    refine mn_row (S := mnS S c comp N K x) hkc hC hk0 (by omega) (by rw [hK]; show K * 4 ≤ _; omega) (by rw [mn_size]; omega) (by rw [hK]; show S.slotsUsed + N + x * K + K ≤ _; omega) fun acts2 => ?_
    rw [hK]
    have hcell : ((mnS S c comp N K x).pushCell (mnI comp K)).heap[S.heap.size]? = some (mnO c N S.heap.size x) := by
      show ((mnS S c comp N K x).heap.push (mnI comp K))[S.heap.size]? = _
      rw [Array.getElem?_push, if_neg (by rw [mn_size]; omega), mn_top]
    have hfit : ((mnS S c comp N K x).pushCell (mnI comp K)).fitsSlot c .none x (.ref (S.heap.size + 1 + x)) = true := by
      have h9 : ((mnS S c comp N K x).pushCell (mnI comp K)).vm.classes[c]? = some kA := hkA
      generalize (mnS S c comp N K x).pushCell (mnI comp K) = V at h9
      simp [State.fitsSlot, State.slotType?, h9, hA]
      rfl
    rw [wp_bind', W.writeLoc]
    refine ⟨_, hcell, nofun, by rw [show (mnO c N S.heap.size x).slots.size = N from arrV_size _ _ _]; exact hi, by rw [mn_size]; exact hfit, ?_⟩
    rw [mn_size, mnO_next hi, mn_next hi]
    simp only [wp_pure']
    exact hq _ _ _ ⟨x + 1, by omega, h2, rfl⟩
  · rintro s' d' acts' ⟨i, h1, -, rfl⟩
    cases h1
    simp only [wp_pure']
    exact hQ _ _
end Make2
section StandM
variable {p : Program} {l : Launch} {e : Env} {R : Room} {s : State} {m : MethodId} {args : Array Value} {below : List Frame} {meth : Method} {c : Code} {T : State} {locs : List Loc} {cells slots : Nat}
theorem mn_stand (X : Stand p l e R s m args below meth c T locs cells slots) (cA comp : ClassId) (n k : Nat) : Stand p l e R s m args below meth c (mnS T cA comp n k n) locs (cells + 1 + n) (slots + n + n * k) := by
  refine { X with here := ⟨X.here.top, X.here.above, X.here.running, X.here.runnable, X.here.alone, X.here.code, X.here.plain⟩, tail := X.tail, warmed := X.warmed, limits := X.limits, bytes := X.bytes, same := ?_ }
  obtain ⟨h1, h2, h3, h4, h5, h6⟩ := X.same
  have h2 : s.heap.size ≤ T.heap.size := h2
  have h3 : T.heap.size ≤ s.heap.size + cells := h3
  have h4 : T.slotsUsed = s.slotsUsed + ((T.heap.toList.drop s.heap.size).map (·.slots.size)).sum := h4
  have h5 : ((T.heap.toList.drop s.heap.size).map (·.slots.size)).sum ≤ slots := h5
  have hd : (((mnS T cA comp n k n).heap.toList.drop s.heap.size).map (·.slots.size)).sum = ((T.heap.toList.drop s.heap.size).map (·.slots.size)).sum + (n + n * k) := by
    rw [mn_heap, Array.toList_append, List.drop_append_of_le_length (by simpa using h2), List.map_append, List.sum_append]
    congr 1
    simp [mnO, mnI, arrV_size]
  refine ⟨congrArg (fun z : State => ({ z with heap := (mnS T cA comp n k n).heap, slotsUsed := (mnS T cA comp n k n).slotsUsed } : State)) h1, ?_, ?_, ?_, ?_, ?_⟩
  · show s.heap.size ≤ (mnS T cA comp n k n).heap.size
    rw [mn_size]; omega
  · show (mnS T cA comp n k n).heap.size ≤ _
    rw [mn_size]; omega
  · show T.slotsUsed + n + n * k = s.slotsUsed + (((mnS T cA comp n k n).heap.toList.drop s.heap.size).map (·.slots.size)).sum
    rw [hd]; omega
  · show (((mnS T cA comp n k n).heap.toList.drop s.heap.size).map (·.slots.size)).sum ≤ _
    rw [hd]; omega
  · intro a c9 hc
    obtain ⟨c', e1, e2, e3, e4⟩ := h6 a c9 hc
    refine ⟨c', ?_, e2, e3, e4⟩
    show (mnS T cA comp n k n).heap[a]? = _
    rw [mn_old (Nat.lt_of_lt_of_le (Array.getElem?_eq_some_iff.mp hc).1 h2)]
    exact e1
theorem mn_step (X : Stand p l e R s m args below meth c T locs cells slots) (hexec : p.tables.exec = Jvm.exec) {own : String} {index : Nat} (hown : s.vm.findClass own = some m.cls) (hclink : (Cond.classLink own index "[[I").before args s = true) (harr : (Cond.arrayClass .int).before args s = true)
    (hA : ∃ (comp c : ClassId) (k : Class), s.vm.findClass "[I" = some comp ∧ s.vm.classes[c]? = some k ∧ k.kind = .array comp (.array .int) ∧ s.vm.findClass "[[I" = some c)
    {g : JFrame} (hg : g.method = m) (hdg : decode c.code g.pc = .ok (.multianewarray index 2, 4)) {n k : Int32} {rest : List Value} (hstack : g.stack = .int k :: .int n :: rest) (hn : ¬ n < 0) (hk : ¬ k < 0) (hb1 : n.toNatClampNeg ≤ 1000) (hb2 : k.toNatClampNeg ≤ 1000)
    (hcells : cells + (1 + n.toNatClampNeg) ≤ R.cells) (hslots : slots + (n.toNatClampNeg + n.toNatClampNeg * k.toNatClampNeg) ≤ R.slots) :
    ∃ (F : State) (cA comp : ClassId), s.vm.findClass "[[I" = some cA ∧ s.vm.findClass "[I" = some comp ∧ Stand p l e R s m args below meth c F locs (cells + 1 + n.toNatClampNeg) (slots + n.toNatClampNeg + n.toNatClampNeg * k.toNatClampNeg) ∧
      F.heap.size = T.heap.size + 1 + n.toNatClampNeg ∧ F.heap[T.heap.size]? = some (mnO cA n.toNatClampNeg T.heap.size n.toNatClampNeg) ∧ (∀ j, j < n.toNatClampNeg → F.heap[T.heap.size + 1 + j]? = some (mnI comp k.toNatClampNeg)) ∧ (∀ x, x < T.heap.size → F.heap[x]? = T.heap[x]?) ∧
      ∀ target, Steps p.tables e below (F.setTop { g with pc := g.pc + 4, stack := .ref T.heap.size :: rest }) target → Steps p.tables e below (T.setTop g) target := by
  subst hg
  obtain ⟨c1, b1, b2⟩ := Cond.classLink_spec hown hclink e.platform X.magic
  obtain ⟨comp, cA, kA, y1, y2, y3, y4⟩ := hA
  rw [show c1 = cA from Option.some.inj (b1.symm.trans y4)] at b2
  obtain ⟨cI, kI, cc, z1, z2, z3⟩ := Cond.arrayClass_spec harr
  have z2 : s.vm.classes[comp]? = some kI := by rw [Option.some.inj (y1.symm.trans z1)]; exact z2
  obtain ⟨g1, g2, g3⟩ := State.classEntry (e := e) X.warmed b2
  have hz : (T.vm.noted g.method.cls index (.cls cA)).classes.size ≤ T.vm.classes.size := by no_record
  generalize T.vm.noted g.method.cls index (.cls cA) = vm9 at g1 g2 g3 hz
  obtain ⟨kA', w1, w2⟩ := g2.alike.2.2 _ _ y2
  obtain ⟨kI', w3, w4⟩ := g2.alike.2.2 _ _ z2
  obtain ⟨r1, r2⟩ := X.roomAbove hcells hslots
  refine ⟨mnS (T.setVm vm9) cA comp n.toNatClampNeg k.toNatClampNeg n.toNatClampNeg, cA, comp, y4, y1, mn_stand (X.noted g2) cA comp _ _, mn_size, mn_top, fun j hj => mn_in hj, fun x hx => mn_old hx, fun target hrest => ?_⟩
  refine Steps.instr (c := c) X.here ?_
  rw [hdg, hexec]
  show wpRun (Op.multianewarray.sem index 2) _ _ e (T.setTop g)
  unfold wpRun
  simp only [Op.multianewarray.sem, wp_bind']
  rw [W.resolveClassAt_transfer (s := T.setTop g) (m := g.method) (State.method?_setTop g X.here.top) g1 g3 hz]
  have hv : (T.setTop g).setVm vm9 = (T.setVm vm9).setTop g := rfl
  rw [hv, W.resolveClassAt_ready (s := (T.setVm vm9).setTop g) (State.method?_setTop (s := T.setVm vm9) g X.here.top) g3]
  rw [show (2 : Nat) = [Value.int n, Value.int k].length from rfl, wp_bind', Op.popN_top (s := T.setVm vm9) X.here.top (args := [.int n, .int k]) hstack]
  simp only [List.mapM_cons, List.mapM_nil, wp_bind', wp_pure']
  refine mn_make (S := (T.setVm vm9).setTop { g with stack := rest }) w1 (by rw [w2]; exact y3) w3 (by rw [w4]; exact z3) hn hk hb1 hb2 (by rw [Launch.admits_arrayLengthLimit X.admits]; decide) (by rw [Launch.admits_maxHeapBytes X.admits]; decide) r1 r2 fun d' acts' => ?_
  rw [mn_setTop (S := T.setVm vm9) _ X.here.top]
  rw [wp_bind', W.mark, W.pushRef]
  refine ⟨_, State.topJava?_setTop' _ (show (mnS (T.setVm vm9) cA comp n.toNatClampNeg k.toNatClampNeg n.toNatClampNeg).topJava?.isSome from X.here.top), fun acts9 => ?_⟩
  rw [State.setTop_setTop, afterInstr_ok]
  exact hrest
end StandM
def zMul (M : Mem) (a : Nat) : Mem := (M.1, M.2.1, fun b => if b = a then (fun j => if j < 20 then a + 1 + j else 0) else M.2.2 b)
theorem zMul_row {M : Mem} {a b : Nat} (h : b ≠ a) : (zMul M a).2.2 b = M.2.2 b := by simp [zMul, h]
section MultiW
variable {p : Program} {l : Launch} {e : Env} {R : Room} {s : State} {m : MethodId} {args : Array Value} {below : List Frame} {meth : Method} {c : Code} {H : Heap} {locs : List Loc} {cells slots : Nat} {Q : State → Prop} {cc : ByteArray} {pc nL : Nat} {ls : Array Slot} {rest st : List Value} {own : String} {G : GG} {B N : Nat} {M M' : Mem} {a ci k idx n : Nat}
theorem z_mul (cx : Cx p s m args c cc nL own G) (wz : Wz G B N s M H locs) (ha : a = N + 1) (hcl : Cond.classLink own idx "[[I" ∈ gtbl) (hac : Cond.arrayClass .int ∈ gtbl) (hs : sh a = (4, 20)) (hs2 : ∀ j, j < 20 → sh (a + 1 + j) = (0, 6)) (hcells : cells + 21 ≤ R.cells) (hslots : slots + 140 ≤ R.slots) (hdg : decode cc pc = .ok (.multianewarray idx 2, 4))
    (kk : ∀ H1 : Heap, Wz G B (N + 21) s (zMul M a) H1 locs → W p l e R s m args below meth c H1 locs (cells + 21) (slots + 140) Q (F0 m (pc + 4) ls (.ref (B + a) :: rest))) : W p l e R s m args below meth c H locs cells slots Q (F0 m pc ls (.int 6 :: .int 20 :: rest)) := by
  obtain ⟨hx, hb, hml, hown, hts, hK⟩ := cx
  obtain ⟨wo, hsz, hZ, hA⟩ := wz
  have hsz2 : H.size = B + a := by omega
  intro T hT X
  obtain ⟨F, cA, comp, fA, fC, X', f1, f2, f3, f4, step⟩ := mn_step X hx hown (hts _ hcl) (hts _ hac) hA.2 (g := F0 m pc ls (.int 6 :: .int 20 :: rest)) rfl (by rw [hb]; exact hdg) rfl (by decide) (by decide) (by decide) (by decide) (by show cells + (1 + 20) ≤ R.cells; omega) (by show slots + (20 + 20 * 6) ≤ R.slots; omega)
  have X' : Stand p l e R s m args below meth c F locs (cells + 1 + 20) (slots + 20 + 20 * 6) := X'
  have f1 : F.heap.size = T.heap.size + 1 + 20 := f1
  have f2 : F.heap[T.heap.size]? = some (mnO cA 20 T.heap.size 20) := f2
  have f3 : ∀ j, j < 20 → F.heap[T.heap.size + 1 + j]? = some (mnI comp 6) := f3
  have step : ∀ target, Steps p.tables e below (F.setTop (F0 m (pc + 4) ls (.ref T.heap.size :: rest))) target → Steps p.tables e below (T.setTop (F0 m pc ls (.int 6 :: .int 20 :: rest))) target := step
  rw [hT] at f1 f2 f3 f4
  have c4 : G.2.1 4 = cA := Option.some.inj (((hK.2 4 _ rfl).2 : s.vm.findClass _ = some (G.2.1 4)).symm.trans fA)
  have c0 : G.2.1 0 = comp := Option.some.inj (((hK.2 0 _ rfl).2 : s.vm.findClass _ = some (G.2.1 0)).symm.trans fC)
  have hP' : va_P G.1 vwCl (wl G B (N + 21) (zMul M a)) F.heap := by
    intro k q hk
    rw [wl_at] at hk
    by_cases h1 : k < N + 21
    · rw [if_pos h1] at hk
      cases hk
      by_cases h2 : k < N
      · have h3 : ce G B (zMul M a) (k + 1) = ce G B M (k + 1) := ce_congr rfl rfl (zMul_row (by omega))
        rw [h3]
        have h4 := wo.1 k (B + (k + 1), ce G B M (k + 1)) (by rw [wl_at, if_pos h2])
        exact h4.kept (f4 _ h4.lt)
      · by_cases h5 : k = N
        · subst h5
          subst ha
          rw [ce_4 (by rw [hs])]
          show F.heap[B + (k + 1)]? = some (vp_cell (G.2.1 4) (ln (k + 1), _))
          rw [← hsz2, f2, c4, show ln (k + 1) = 20 by unfold ln; rw [hs], vp_cell_q]
          unfold mnO
          refine congrArg (fun z => some (arrV cA 20 z)) (funext fun j => ?_)
          by_cases hj : j < 20
          · have h8 : (zMul M (k + 1)).2.2 (k + 1) j = k + 1 + 1 + j := by simp [zMul, hj]
            rw [if_pos hj, h8, rv_pos (by omega)]
            show Value.ref (H.size + 1 + j) = Value.ref (B + (k + 1 + 1 + j))
            have h9 : (H.size : Nat) + 1 + j = B + (k + 1 + 1 + j) := by omega
            exact congrArg Value.ref h9
          · have h8 : (zMul M (k + 1)).2.2 (k + 1) j = 0 := by simp [zMul, hj]
            rw [if_neg hj, h8]
            rfl
        · obtain ⟨j, hj, rfl⟩ : ∃ j, j < 20 ∧ k = N + 1 + j := ⟨k - (N + 1), by omega, by omega⟩
          subst ha
          have hsj := hs2 j hj
          rw [ce_0 (by rw [show N + 1 + j + 1 = N + 1 + 1 + j by omega, hsj])]
          show F.heap[B + (N + 1 + j + 1)]? = some (vp_cell (G.2.1 0) (ln (N + 1 + j + 1), .inl (M.1 (N + 1 + j + 1))))
          rw [show B + (N + 1 + j + 1) = H.size + 1 + j by omega, f3 j hj, c0, (hZ (N + 1 + j + 1) (by omega)).1, show ln (N + 1 + j + 1) = 6 by unfold ln; rw [show N + 1 + j + 1 = N + 1 + 1 + j by omega, hsj]]
          rfl
    · rw [if_neg h1] at hk; cases hk
  have hZ' : Zr (N + 21) (zMul M a) := fun b hb => by
    have h := hZ b (by omega)
    exact ⟨h.1, h.2.1, (zMul_row (by omega)).trans h.2.2⟩
  obtain ⟨t, a1, b1⟩ := kk F.heap ⟨⟨hP', ⟨Nat.le_trans wo.2.1.1 (by omega), fun x h1 h2 => (f4 x (Nat.lt_of_lt_of_le h1 wo.2.1.1)).trans (wo.2.1.2.1 x h1 h2), wo.2.1.2.2⟩, wo.2.2.1, trivial, wo.2.2.2.2⟩, by omega, hZ', hA⟩ F rfl (by
    have e1 : cells + 1 + 20 = cells + 21 := by omega
    have e2 : slots + 20 + 20 * 6 = slots + 140 := by omega
    rw [e1, e2] at X'
    exact X')
  refine ⟨t, step t ?_, b1⟩
  rw [hT, hsz2]
  exact a1
end MultiW
