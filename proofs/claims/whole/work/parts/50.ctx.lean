/-! PURE: questions: what stays, what is told -/
def SC (a : Nat) : Prop := (11 ≤ a ∧ a ≤ 25) ∨ (108 ≤ a ∧ a ≤ 114) ∨ (141 ≤ a ∧ a ≤ 145) ∨ a = 148 ∨ a = 149 ∨ a = 152 ∨ a = 153
def SR (a : Nat) : Prop := a = 172 ∨ a = 174 ∨ (176 ≤ a ∧ a ≤ 184) ∨ (186 ≤ a ∧ a ≤ 197) ∨ a = 200 ∨ a = 201
def SS (i : Nat) : Prop := i = 0 ∨ i = 1 ∨ (9 ≤ i ∧ i ≤ 15) ∨ i = 17 ∨ i = 23 ∨ i = 27 ∨ i = 30 ∨ i = 34 ∨ i = 40 ∨ i = 50
def KC (M M' : Mem) : Prop := (∀ a, ¬ SC a → a ≠ 4 → M'.1 a = M.1 a) ∧ (∀ a, a ≠ 5 → M'.2.1 a = M.2.1 a) ∧ M'.2.2 = M.2.2
def KR (M M' : Mem) : Prop := (∀ a, a ≠ 169 → ¬ SR a → M'.1 a = M.1 a) ∧ (∀ i, ¬ SS i → M'.1 169 i = M.1 169 i) ∧ (∀ a, a ≠ 170 → M'.2.1 a = M.2.1 a) ∧ M'.2.2 = M.2.2
theorem kc_rfl {M : Mem} : KC M M := ⟨fun _ _ _ => rfl, fun _ _ => rfl, rfl⟩
theorem kr_rfl {M : Mem} : KR M M := ⟨fun _ _ _ => rfl, fun _ _ => rfl, fun _ _ => rfl, rfl⟩
theorem kc_fr {M M' : Mem} (h : Fr SC M M') : KC M M' := ⟨fun a h1 _ => h.1 a h1, fun a _ => by rw [h.2], by rw [h.2]⟩
theorem kr_fr {M M' : Mem} (h : FrR SR SS M M') : KR M M' := ⟨h.1, h.2.1, fun a _ => by rw [h.2.2], by rw [h.2.2]⟩
theorem kc_trans {M M' M'' : Mem} (h : KC M M') (h' : KC M' M'') : KC M M'' := ⟨fun a h1 h2 => (h'.1 a h1 h2).trans (h.1 a h1 h2), fun a h1 => (h'.2.1 a h1).trans (h.2.1 a h1), h'.2.2.trans h.2.2⟩
theorem kr_trans {M M' M'' : Mem} (h : KR M M') (h' : KR M' M'') : KR M M'' := ⟨fun a h1 h2 => (h'.1 a h1 h2).trans (h.1 a h1 h2), fun i h1 => (h'.2.1 i h1).trans (h.2.1 i h1), fun a h1 => (h'.2.2.1 a h1).trans (h.2.2.1 a h1), h'.2.2.2.trans h.2.2.2⟩
/-- the ROW: as it was, or told -/
def CRow (l : Option (List Int64)) (M M' : Mem) : Prop := match l with
  | none => M'.1 4 = M.1 4 ∧ M'.2.1 5 = M.2.1 5
  | some l => M'.1 4 1 = nI l.length ∧ ∀ i, i < l.length → M'.2.1 5 i = l.getD i 0
def RRow (l : Option (List Int64)) (M M' : Mem) : Prop := match l with
  | none => M'.1 169 1 = M.1 169 1 ∧ M'.2.1 170 = M.2.1 170
  | some l => M'.1 169 1 = nI l.length ∧ ∀ i, i < l.length → M'.2.1 170 i = l.getD i 0
def QC (x : Int32) (l : Option (List Int64)) (M : Mem) (q : Int32 × Mem) : Prop := q.1 = x ∧ KC M q.2 ∧ CRow l M q.2
def QR (x : Int32) (l : Option (List Int64)) (M : Mem) (q : Int32 × Mem) : Prop := q.1 = x ∧ KR M q.2 ∧ RRow l M q.2
theorem qc_none {M M' : Mem} {x : Int32} (h : Fr SC M M') : QC x none M (x, M') := ⟨rfl, kc_fr h, h.1 4 (by unfold SC; omega), by rw [h.2]⟩
def SS1 (i : Nat) : Prop := SS i ∧ i ≠ 1
theorem qr_none {M M' : Mem} {x : Int32} (h : FrR SR SS1 M M') : QR x none M (x, M') := ⟨rfl, kr_fr (frR_sub h (fun _ _ h => h) (fun _ h => h.1)), h.2.1 1 (fun q => q.2 rfl), by rw [h.2.2]⟩
theorem rJ_e {M : Mem} {a i b j : Nat} {v : Int64} (h : b = a) (h' : j = i) : (sJ M a i v).2.1 b j = v := by subst h; subst h'; simp [sJ, up2]
theorem rJ_s {M : Mem} {a i b j : Nat} {v : Int64} (h : j ≠ i) : (sJ M a i v).2.1 b j = M.2.1 b j := by
  unfold sJ up2
  by_cases e : b = a
  · subst e; simp [h]
  · simp [e]
theorem rJ_r {M : Mem} {a i b : Nat} {v : Int64} (h : b ≠ a) : (sJ M a i v).2.1 b = M.2.1 b := by simp [sJ, up2, h]
theorem sJ_1 {M : Mem} {a i : Nat} {v : Int64} : (sJ M a i v).1 = M.1 := rfl
theorem sI_21 {M : Mem} {a i : Nat} {v : Int32} : (sI M a i v).2.1 = M.2.1 := rfl
theorem c_add {M M1 : Mem} {l : List Int64} {x : Int64} (hl : l.length < 16) (hk : KC M M1) (hr : CRow (some l) M M1) : Ok (fX5_add x M1) (fun M2 => KC M M2 ∧ CRow (some (l ++ [x])) M M2 ∧ (∀ a, a ≠ 4 → M2.1 a = M1.1 a) ∧ M2.2.2 = M1.2.2) := by
  obtain ⟨r1, r2⟩ := hr
  rw [e_X5_add]
  simp (disch := omega) only [↓reduceIte, ic_t, ic_f, not_true_eq_false, not_false_eq_true, ↓lt_v, rdR, rdE, rdS, leT, leTc, leTd, leF, leFc, leFd, ltT, ltTc, ltTd, ltF, ltFc, ltFd, eqT, eqTc, eqTd, eqF, eqFc, eqFd, m1T, m1F, m1T', m1F', inb_nI, ix_nI, inb_c, ix_c, nI_1, nI_pred, nI_m1, add_nIc, add_cnI, bd_v, reduceCtorEq, eqFcc, m1e0, m1e1, m1l0, m1g0, m2l0, m2g0, Int32.reduceLT, Int32.reduceLE, Int32.reduceAdd, Int32.reduceSub, Int32.reduceMul, eq_self, Bool.false_eq_true, r1, sJ_1]
  refine ok_some ⟨⟨fun a h1 h2 => ?_, fun a h1 => ?_, ?_⟩, ⟨?_, fun i hi => ?_⟩, fun a ha => ?_, rfl⟩
  · rw [show (sI (sJ M1 5 l.length x) 4 1 (nI (l.length + 1))).1 a = M1.1 a from up2_row h2]; exact hk.1 a h1 h2
  · rw [sI_21, rJ_r h1]; exact hk.2.1 a h1
  · exact hk.2.2
  · simp (disch := omega) only [↓reduceIte, ic_t, ic_f, not_true_eq_false, not_false_eq_true, ↓lt_v, rdR, rdE, rdS, leT, leTc, leTd, leF, leFc, leFd, ltT, ltTc, ltTd, ltF, ltFc, ltFd, eqT, eqTc, eqTd, eqF, eqFc, eqFd, m1T, m1F, m1T', m1F', inb_nI, ix_nI, inb_c, ix_c, nI_1, nI_pred, nI_m1, add_nIc, add_cnI, bd_v, reduceCtorEq, eqFcc, m1e0, m1e1, m1l0, m1g0, m2l0, m2g0, Int32.reduceLT, Int32.reduceLE, Int32.reduceAdd, Int32.reduceSub, Int32.reduceMul, eq_self, Bool.false_eq_true]
    simp
  · rw [sI_21]
    simp at hi
    by_cases e : i = l.length
    · subst e
      rw [rJ_e rfl rfl]
      simp
    · rw [rJ_s e, r2 i (by omega)]
      rw [List.getD_eq_getElem?_getD, List.getD_eq_getElem?_getD, List.getElem?_append_left (by omega)]
  · exact up2_row ha
theorem c_zero {M M1 : Mem} (hk : KC M M1) : KC M (sI M1 4 1 0) ∧ CRow (some []) M (sI M1 4 1 0) := by
  refine ⟨⟨fun a h1 h2 => ?_, fun a h1 => hk.2.1 a h1, hk.2.2⟩, ?_, fun i hi => absurd hi (Nat.not_lt_zero _)⟩
  · rw [show (sI M1 4 1 0).1 a = M1.1 a from up2_row h2]; exact hk.1 a h1 h2
  · simp (disch := omega) only [↓reduceIte, ic_t, ic_f, not_true_eq_false, not_false_eq_true, ↓lt_v, rdR, rdE, rdS, leT, leTc, leTd, leF, leFc, leFd, ltT, ltTc, ltTd, ltF, ltFc, ltFd, eqT, eqTc, eqTd, eqF, eqFc, eqFd, m1T, m1F, m1T', m1F', inb_nI, ix_nI, inb_c, ix_c, nI_1, nI_pred, nI_m1, add_nIc, add_cnI, bd_v, reduceCtorEq, eqFcc, m1e0, m1e1, m1l0, m1g0, m2l0, m2g0, Int32.reduceLT, Int32.reduceLE, Int32.reduceAdd, Int32.reduceSub, Int32.reduceMul, eq_self, Bool.false_eq_true]; rfl
theorem c_tell {M M1 : Mem} {x : Int64} (hk : KC M M1) : Ok (fX5_tell x M1) (fun M2 => KC M M2 ∧ CRow (some [x]) M M2 ∧ (∀ a, a ≠ 4 → M2.1 a = M1.1 a) ∧ M2.2.2 = M1.2.2) := by
  obtain ⟨k1, k2⟩ := c_zero hk
  rw [e_X5_tell]
  simp (disch := omega) only [↓reduceIte, ic_t, ic_f, not_true_eq_false, not_false_eq_true, ↓lt_v, rdR, rdE, rdS, leT, leTc, leTd, leF, leFc, leFd, ltT, ltTc, ltTd, ltF, ltFc, ltFd, eqT, eqTc, eqTd, eqF, eqFc, eqFd, m1T, m1F, m1T', m1F', inb_nI, ix_nI, inb_c, ix_c, nI_1, nI_pred, nI_m1, add_nIc, add_cnI, bd_v, reduceCtorEq, eqFcc, m1e0, m1e1, m1l0, m1g0, m2l0, m2g0, Int32.reduceLT, Int32.reduceLE, Int32.reduceAdd, Int32.reduceSub, Int32.reduceMul, eq_self, Bool.false_eq_true]
  refine ok_call (c_add (l := []) (x := x) (by decide) k1 k2) (fun M2 h => ok_some ⟨h.1, h.2.1, fun a ha => ?_, h.2.2.2⟩)
  rw [h.2.2.1 a ha]
  exact up2_row ha
theorem c_tellB {M M1 : Mem} {x y : Int64} (hk : KC M M1) : Ok (fX5_tellBoth x y M1) (fun M2 => KC M M2 ∧ CRow (some [x, y]) M M2 ∧ (∀ a, a ≠ 4 → M2.1 a = M1.1 a) ∧ M2.2.2 = M1.2.2) := by
  obtain ⟨k1, k2⟩ := c_zero hk
  rw [e_X5_tellBoth]
  simp (disch := omega) only [↓reduceIte, ic_t, ic_f, not_true_eq_false, not_false_eq_true, ↓lt_v, rdR, rdE, rdS, leT, leTc, leTd, leF, leFc, leFd, ltT, ltTc, ltTd, ltF, ltFc, ltFd, eqT, eqTc, eqTd, eqF, eqFc, eqFd, m1T, m1F, m1T', m1F', inb_nI, ix_nI, inb_c, ix_c, nI_1, nI_pred, nI_m1, add_nIc, add_cnI, bd_v, reduceCtorEq, eqFcc, m1e0, m1e1, m1l0, m1g0, m2l0, m2g0, Int32.reduceLT, Int32.reduceLE, Int32.reduceAdd, Int32.reduceSub, Int32.reduceMul, eq_self, Bool.false_eq_true]
  refine ok_call (c_add (l := []) (x := x) (by decide) k1 k2) (fun M2 h => ?_)
  refine ok_call (c_add (l := [x]) (x := y) (by simp) h.1 h.2.1) (fun M3 g => ok_some ⟨g.1, g.2.1, fun a ha => ?_, g.2.2.2.trans h.2.2.2⟩)
  rw [g.2.2.1 a ha, h.2.2.1 a ha]
  exact up2_row ha
theorem r_enters {M M1 : Mem} {l : List Int64} {x : Int64} (hl : l.length < 24) (hk : KR M M1) (hr : RRow (some l) M M1) : Ok (fX10_enters x M1) (fun M2 => KR M M2 ∧ RRow (some (l ++ [x])) M M2 ∧ (∀ a, a ≠ 169 → M2.1 a = M1.1 a) ∧ (∀ i, i ≠ 1 → M2.1 169 i = M1.1 169 i)) := by
  obtain ⟨r1, r2⟩ := hr
  rw [e_X10_enters]
  simp (disch := omega) only [↓reduceIte, ic_t, ic_f, not_true_eq_false, not_false_eq_true, ↓lt_v, rdR, rdE, rdS, leT, leTc, leTd, leF, leFc, leFd, ltT, ltTc, ltTd, ltF, ltFc, ltFd, eqT, eqTc, eqTd, eqF, eqFc, eqFd, m1T, m1F, m1T', m1F', inb_nI, ix_nI, inb_c, ix_c, nI_1, nI_pred, nI_m1, add_nIc, add_cnI, bd_v, reduceCtorEq, eqFcc, m1e0, m1e1, m1l0, m1g0, m2l0, m2g0, Int32.reduceLT, Int32.reduceLE, Int32.reduceAdd, Int32.reduceSub, Int32.reduceMul, eq_self, Bool.false_eq_true, r1, sJ_1]
  refine ok_some ⟨⟨fun a h1 h2 => ?_, fun i hi => ?_, fun a h1 => ?_, ?_⟩, ⟨?_, fun i hi => ?_⟩, fun a ha => ?_, fun i hi => ?_⟩
  · rw [show (sI (sJ M1 170 l.length x) 169 1 (nI (l.length + 1))).1 a = M1.1 a from up2_row h1]; exact hk.1 a h1 h2
  · have : i ≠ 1 := fun q => hi (by unfold SS; omega)
    simp (disch := omega) only [↓reduceIte, ic_t, ic_f, not_true_eq_false, not_false_eq_true, ↓lt_v, rdR, rdE, rdS, leT, leTc, leTd, leF, leFc, leFd, ltT, ltTc, ltTd, ltF, ltFc, ltFd, eqT, eqTc, eqTd, eqF, eqFc, eqFd, m1T, m1F, m1T', m1F', inb_nI, ix_nI, inb_c, ix_c, nI_1, nI_pred, nI_m1, add_nIc, add_cnI, bd_v, reduceCtorEq, eqFcc, m1e0, m1e1, m1l0, m1g0, m2l0, m2g0, Int32.reduceLT, Int32.reduceLE, Int32.reduceAdd, Int32.reduceSub, Int32.reduceMul, eq_self, Bool.false_eq_true, sJ_1]
    exact hk.2.1 i hi
  · rw [sI_21, rJ_r h1]; exact hk.2.2.1 a h1
  · exact hk.2.2.2
  · simp (disch := omega) only [↓reduceIte, ic_t, ic_f, not_true_eq_false, not_false_eq_true, ↓lt_v, rdR, rdE, rdS, leT, leTc, leTd, leF, leFc, leFd, ltT, ltTc, ltTd, ltF, ltFc, ltFd, eqT, eqTc, eqTd, eqF, eqFc, eqFd, m1T, m1F, m1T', m1F', inb_nI, ix_nI, inb_c, ix_c, nI_1, nI_pred, nI_m1, add_nIc, add_cnI, bd_v, reduceCtorEq, eqFcc, m1e0, m1e1, m1l0, m1g0, m2l0, m2g0, Int32.reduceLT, Int32.reduceLE, Int32.reduceAdd, Int32.reduceSub, Int32.reduceMul, eq_self, Bool.false_eq_true]
    simp
  · rw [sI_21]
    simp at hi
    by_cases e : i = l.length
    · subst e
      rw [rJ_e rfl rfl]
      simp
    · rw [rJ_s e, r2 i (by omega)]
      rw [List.getD_eq_getElem?_getD, List.getD_eq_getElem?_getD, List.getElem?_append_left (by omega)]
  · exact up2_row ha
  · simp (disch := omega) only [↓reduceIte, ic_t, ic_f, not_true_eq_false, not_false_eq_true, ↓lt_v, rdR, rdE, rdS, leT, leTc, leTd, leF, leFc, leFd, ltT, ltTc, ltTd, ltF, ltFc, ltFd, eqT, eqTc, eqTd, eqF, eqFc, eqFd, m1T, m1F, m1T', m1F', inb_nI, ix_nI, inb_c, ix_c, nI_1, nI_pred, nI_m1, add_nIc, add_cnI, bd_v, reduceCtorEq, eqFcc, m1e0, m1e1, m1l0, m1g0, m2l0, m2g0, Int32.reduceLT, Int32.reduceLE, Int32.reduceAdd, Int32.reduceSub, Int32.reduceMul, eq_self, Bool.false_eq_true, sJ_1]
theorem r_zero {M M1 : Mem} (hk : KR M M1) : KR M (sI M1 169 1 0) ∧ RRow (some []) M (sI M1 169 1 0) := by
  refine ⟨⟨fun a h1 h2 => ?_, fun i hi => ?_, fun a h1 => hk.2.2.1 a h1, hk.2.2.2⟩, ?_, fun i hi => absurd hi (Nat.not_lt_zero _)⟩
  · rw [show (sI M1 169 1 0).1 a = M1.1 a from up2_row h1]; exact hk.1 a h1 h2
  · have : i ≠ 1 := fun q => hi (by unfold SS; omega)
    simp (disch := omega) only [↓reduceIte, ic_t, ic_f, not_true_eq_false, not_false_eq_true, ↓lt_v, rdR, rdE, rdS, leT, leTc, leTd, leF, leFc, leFd, ltT, ltTc, ltTd, ltF, ltFc, ltFd, eqT, eqTc, eqTd, eqF, eqFc, eqFd, m1T, m1F, m1T', m1F', inb_nI, ix_nI, inb_c, ix_c, nI_1, nI_pred, nI_m1, add_nIc, add_cnI, bd_v, reduceCtorEq, eqFcc, m1e0, m1e1, m1l0, m1g0, m2l0, m2g0, Int32.reduceLT, Int32.reduceLE, Int32.reduceAdd, Int32.reduceSub, Int32.reduceMul, eq_self, Bool.false_eq_true]
    exact hk.2.1 i hi
  · simp (disch := omega) only [↓reduceIte, ic_t, ic_f, not_true_eq_false, not_false_eq_true, ↓lt_v, rdR, rdE, rdS, leT, leTc, leTd, leF, leFc, leFd, ltT, ltTc, ltTd, ltF, ltFc, ltFd, eqT, eqTc, eqTd, eqF, eqFc, eqFd, m1T, m1F, m1T', m1F', inb_nI, ix_nI, inb_c, ix_c, nI_1, nI_pred, nI_m1, add_nIc, add_cnI, bd_v, reduceCtorEq, eqFcc, m1e0, m1e1, m1l0, m1g0, m2l0, m2g0, Int32.reduceLT, Int32.reduceLE, Int32.reduceAdd, Int32.reduceSub, Int32.reduceMul, eq_self, Bool.false_eq_true]; rfl
/-- the reference tells one, two numbers -/
theorem r_tell1 {M M1 : Mem} {x : Int64} {α : Type} {f : Mem → Option α} {Q : α → Prop} (hk : KR M M1) (k : ∀ M2, KR M M2 → RRow (some [x]) M M2 → (∀ a, a ≠ 169 → M2.1 a = M1.1 a) → (∀ i, i ≠ 1 → M2.1 169 i = M1.1 169 i) → Ok (f M2) Q) : Ok ((fX10_enters x (sI M1 169 1 0)).bind f) Q := by
  obtain ⟨k1, k2⟩ := r_zero hk
  refine ok_call (r_enters (l := []) (x := x) (by decide) k1 k2) (fun M2 h => k M2 h.1 h.2.1 (fun a ha => ?_) (fun i hi => ?_))
  · rw [h.2.2.1 a ha]; exact up2_row ha
  · rw [h.2.2.2 i hi]; exact rdS hi
theorem r_in {M : Mem} {x y z : Int64} : fX10_in x y z M = some (if y ≤ x ∧ x ≤ z then 1 else 0, M) := by
  rw [e_X10_in]
  by_cases h1 : x < y
  · rw [ic_pos ((lg_cmp_lt x y).mpr h1), if_neg]
    intro c
    rw [Int64.lt_iff_toInt_lt] at h1
    have := c.1
    rw [Int64.le_iff_toInt_le] at this
    omega
  · rw [ic_neg (fun q => h1 ((lg_cmp_lt x y).mp q))]
    have h1' : y ≤ x := by
      rw [Int64.lt_iff_toInt_lt] at h1
      rw [Int64.le_iff_toInt_le]
      omega
    by_cases h2 : z < x
    · rw [ic_pos ((lg_cmp_gt x z).mpr h2), if_neg]
      intro c
      rw [Int64.lt_iff_toInt_lt] at h2
      have := c.2
      rw [Int64.le_iff_toInt_le] at this
      omega
    · rw [ic_neg (fun q => h2 ((lg_cmp_gt x z).mp q)), if_pos ⟨h1', by
        rw [Int64.lt_iff_toInt_lt] at h2
        rw [Int64.le_iff_toInt_le]
        omega⟩]
/-- an int between two numbers, as longs -/
theorem r_inI {M : Mem} {x : Int32} {y z : Int64} {lo hi : Int} (hy : y.toInt = lo) (hz : z.toInt = hi) : fX10_in x.toInt64 y z M = some (if lo ≤ x.toInt ∧ x.toInt ≤ hi then 1 else 0, M) := by
  rw [r_in]
  have e : (y ≤ x.toInt64 ∧ x.toInt64 ≤ z) = (lo ≤ x.toInt ∧ x.toInt ≤ hi) := by
    rw [Int64.le_iff_toInt_le, Int64.le_iff_toInt_le, Int32.toInt_toInt64, hy, hz]
  simp only [e]
theorem r_isBoat_in {M : Mem} {n b : Nat} (h0 : M.1 169 3 = nI n) (hn : n ≤ 6) (hb : b < n) : fX10_isBoat (nI b) M = some (1, M) := by
  rw [e_X10_isBoat, r_inI (lo := 0) (hi := (n : Int) - 1) (by decide) (by
    obtain ⟨m, rfl⟩ : ∃ m, n = m + 1 := ⟨n - 1, by omega⟩
    rw [h0, nI_pred, Int32.toInt_toInt64, nI_toInt (by omega)]; omega)]
  rw [nI_toInt (by omega), if_pos (by omega)]
  simp (disch := omega) only [↓reduceIte, ic_t, ic_f, not_true_eq_false, not_false_eq_true, ↓lt_v, rdR, rdE, rdS, leT, leTc, leTd, leF, leFc, leFd, ltT, ltTc, ltTd, ltF, ltFc, ltFd, eqT, eqTc, eqTd, eqF, eqFc, eqFd, m1T, m1F, m1T', m1F', inb_nI, ix_nI, inb_c, ix_c, nI_1, nI_pred, nI_m1, add_nIc, add_cnI, bd_v, reduceCtorEq, eqFcc, m1e0, m1e1, m1l0, m1g0, m2l0, m2g0, Int32.reduceLT, Int32.reduceLE, Int32.reduceAdd, Int32.reduceSub, Int32.reduceMul, eq_self, Bool.false_eq_true]
  simp [ic]
theorem r_isBoat_out {M : Mem} {n : Nat} {x : Int32} (h0 : M.1 169 3 = nI n) (hn : n ≤ 6) (hx : x < 0 ∨ nI n ≤ x) : fX10_isBoat x M = some (0, M) := by
  have e : (nI n - 1).toInt64.toInt = (n : Int) - 1 := by
    cases n with
    | zero => decide
    | succ m => rw [nI_pred, Int32.toInt_toInt64, nI_toInt (by omega)]; omega
  rw [e_X10_isBoat, r_inI (lo := 0) (hi := (n : Int) - 1) (by decide) (by rw [h0]; exact e)]
  rw [if_neg (by
    intro c
    rcases hx with h | h
    · rw [Int32.lt_iff_toInt_lt] at h
      have : (0 : Int32).toInt = 0 := by decide
      omega
    · rw [Int32.le_iff_toInt_le, nI_toInt (by omega)] at h
      omega)]
  simp (disch := omega) only [↓reduceIte, ic_t, ic_f, not_true_eq_false, not_false_eq_true, ↓lt_v, rdR, rdE, rdS, leT, leTc, leTd, leF, leFc, leFd, ltT, ltTc, ltTd, ltF, ltFc, ltFd, eqT, eqTc, eqTd, eqF, eqFc, eqFd, m1T, m1F, m1T', m1F', inb_nI, ix_nI, inb_c, ix_c, nI_1, nI_pred, nI_m1, add_nIc, add_cnI, bd_v, reduceCtorEq, eqFcc, m1e0, m1e1, m1l0, m1g0, m2l0, m2g0, Int32.reduceLT, Int32.reduceLE, Int32.reduceAdd, Int32.reduceSub, Int32.reduceMul, eq_self, Bool.false_eq_true]
  simp [ic]
/-- where they are: the class, the reference -/
def CR (n : Nat) (v : VV) (F : (Nat → Int32) → Int32) (R : Nat) (M : Mem) : Prop := WfV n v ∧ RvC 6 n v M ∧ RuC R F M ∧ M.2.2 1 17 = R ∧ (R = 146 ∨ R = 150)
def RR (n : Nat) (v : VV) (F : (Nat → Int32) → Int32) (M : Mem) : Prop := WfV n v ∧ M.1 169 3 = nI n ∧ (∀ i, i < 22 → M.1 171 i = v.1 i) ∧ RuR F M
theorem ln171 : ln 171 = 22 := by decide
theorem ln172 : ln 172 = 22 := by decide
theorem ln197 : ln 197 = 22 := by decide
theorem r_copies {M : Mem} : Ok (fX10_copies M) (fun M' => (∀ i, i < 22 → M'.1 172 i = M.1 171 i) ∧ FrR (fun a => a = 172) (fun _ => False) M M') := by
  rw [e_X10_copies]
  have hFU : 2000 < FU := FU_big
  generalize FU = fu0 at hFU ⊢
  refine ok_loop 22 (fun fu k s => fX10_copies_2 fu (nI k) s) (fun k s => (∀ i, i < k → s.1 172 i = M.1 171 i) ∧ FrR (fun a => a = 172) (fun _ => False) M s) ?_ ?_ fu0 0 M (by omega) (by omega) ⟨fun i hi => absurd hi (Nat.not_lt_zero _), frR_rfl⟩
  · intro fu k s hk hs ih
    obtain ⟨b1, b2⟩ := hs
    have e : s.1 171 k = M.1 171 k := by rw [b2.1 171 (by omega) (by omega)]
    rw [e_X10_copies_2]
    simp (disch := omega) only [↓reduceIte, ic_t, ic_f, not_true_eq_false, not_false_eq_true, ↓lt_v, rdR, rdE, rdS, leT, leTc, leTd, leF, leFc, leFd, ltT, ltTc, ltTd, ltF, ltFc, ltFd, eqT, eqTc, eqTd, eqF, eqFc, eqFd, m1T, m1F, m1T', m1F', inb_nI, ix_nI, inb_c, ix_c, nI_1, nI_pred, nI_m1, add_nIc, add_cnI, bd_v, reduceCtorEq, eqFcc, m1e0, m1e1, m1l0, m1g0, m2l0, m2g0, Int32.reduceLT, Int32.reduceLE, Int32.reduceAdd, Int32.reduceSub, Int32.reduceMul, eq_self, Bool.false_eq_true, e]
    refine ih _ ⟨?_, frR_trans b2 (frR_sI (by omega) (by omega))⟩
    intro i hi
    by_cases e1 : i = k
    · subst e1
      simp (disch := omega) only [↓reduceIte, ic_t, ic_f, not_true_eq_false, not_false_eq_true, ↓lt_v, rdR, rdE, rdS, leT, leTc, leTd, leF, leFc, leFd, ltT, ltTc, ltTd, ltF, ltFc, ltFd, eqT, eqTc, eqTd, eqF, eqFc, eqFd, m1T, m1F, m1T', m1F', inb_nI, ix_nI, inb_c, ix_c, nI_1, nI_pred, nI_m1, add_nIc, add_cnI, bd_v, reduceCtorEq, eqFcc, m1e0, m1e1, m1l0, m1g0, m2l0, m2g0, Int32.reduceLT, Int32.reduceLE, Int32.reduceAdd, Int32.reduceSub, Int32.reduceMul, eq_self, Bool.false_eq_true]
    · simp (disch := omega) only [↓reduceIte, ic_t, ic_f, not_true_eq_false, not_false_eq_true, ↓lt_v, rdR, rdE, rdS, leT, leTc, leTd, leF, leFc, leFd, ltT, ltTc, ltTd, ltF, ltFc, ltFd, eqT, eqTc, eqTd, eqF, eqFc, eqFd, m1T, m1F, m1T', m1F', inb_nI, ix_nI, inb_c, ix_c, nI_1, nI_pred, nI_m1, add_nIc, add_cnI, bd_v, reduceCtorEq, eqFcc, m1e0, m1e1, m1l0, m1g0, m2l0, m2g0, Int32.reduceLT, Int32.reduceLE, Int32.reduceAdd, Int32.reduceSub, Int32.reduceMul, eq_self, Bool.false_eq_true]
      exact b1 i (by omega)
  · intro fu s hs
    rw [e_X10_copies_2]
    simp (disch := omega) only [↓reduceIte, ic_t, ic_f, not_true_eq_false, not_false_eq_true, ↓lt_v, rdR, rdE, rdS, leT, leTc, leTd, leF, leFc, leFd, ltT, ltTc, ltTd, ltF, ltFc, ltFd, eqT, eqTc, eqTd, eqF, eqFc, eqFd, m1T, m1F, m1T', m1F', inb_nI, ix_nI, inb_c, ix_c, nI_1, nI_pred, nI_m1, add_nIc, add_cnI, bd_v, reduceCtorEq, eqFcc, m1e0, m1e1, m1l0, m1g0, m2l0, m2g0, Int32.reduceLT, Int32.reduceLE, Int32.reduceAdd, Int32.reduceSub, Int32.reduceMul, eq_self, Bool.false_eq_true]
    exact ok_some hs
theorem r_goesOn {M : Mem} {n a d : Nat} {v : VV} {F : (Nat → Int32) → Int32} (hw : WfV n v) (hl : ln a = 22) (ha : a < 169 ∨ 184 < a ∨ a = 171 ∨ a = 172) (h0 : M.1 169 3 = nI n) (hv : ∀ i, i < 22 → M.1 a i = v.1 i) (hu : RuR F M) (hd : d ≤ 1000) :
    Ok (fX10_goesOn a (nI d) M) (fun M' => (∀ i, i < 22 → M'.1 a i = (days F n d v).1 i) ∧ M'.1 169 30 = nI (dts F n v d) ∧ RuR F M' ∧ M'.1 169 3 = nI n ∧ FrR (PDr a) SDr M M') := by
  rw [e_X10_goesOn]
  simp (disch := omega) only [↓reduceIte, ic_t, ic_f, not_true_eq_false, not_false_eq_true, ↓lt_v, rdR, rdE, rdS, leT, leTc, leTd, leF, leFc, leFd, ltT, ltTc, ltTd, ltF, ltFc, ltFd, eqT, eqTc, eqTd, eqF, eqFc, eqFd, m1T, m1F, m1T', m1F', inb_nI, ix_nI, inb_c, ix_c, nI_1, nI_pred, nI_m1, add_nIc, add_cnI, bd_v, reduceCtorEq, eqFcc, m1e0, m1e1, m1l0, m1g0, m2l0, m2g0, Int32.reduceLT, Int32.reduceLE, Int32.reduceAdd, Int32.reduceSub, Int32.reduceMul, eq_self, Bool.false_eq_true]
  have hFU : 2000 < FU := FU_big
  generalize FU = fu0 at hFU ⊢
  refine ok_loop d (fun fu k s => fX10_goesOn_7 fu a (nI d) (nI k) s) (fun k s => (∀ i, i < 22 → s.1 a i = (days F n k v).1 i) ∧ s.1 169 30 = nI (dts F n v k) ∧ RuR F s ∧ s.1 169 3 = nI n ∧ FrR (PDr a) SDr M s) ?_ ?_ fu0 0 _ (by omega) (by omega) ⟨?_, ?_, ?_, ?_, ?_⟩
  · intro fu k s hk hs ih
    obtain ⟨b1, b2, b3, b4, b5⟩ := hs
    rw [e_X10_goesOn_7]
    simp (disch := omega) only [↓reduceIte, ic_t, ic_f, not_true_eq_false, not_false_eq_true, ↓lt_v, rdR, rdE, rdS, leT, leTc, leTd, leF, leFc, leFd, ltT, ltTc, ltTd, ltF, ltFc, ltFd, eqT, eqTc, eqTd, eqF, eqFc, eqFd, m1T, m1F, m1T', m1F', inb_nI, ix_nI, inb_c, ix_c, nI_1, nI_pred, nI_m1, add_nIc, add_cnI, bd_v, reduceCtorEq, eqFcc, m1e0, m1e1, m1l0, m1g0, m2l0, m2g0, Int32.reduceLT, Int32.reduceLE, Int32.reduceAdd, Int32.reduceSub, Int32.reduceMul, eq_self, Bool.false_eq_true]
    refine ok_call (r_day (wf_days hw k) hl ha b4 b1 b3) (fun M1 g => ?_)
    obtain ⟨g1, g2, g3, g4, g5⟩ := g
    refine ih _ ⟨g1, ?_, g4, ?_, frR_trans b5 g5⟩
    · rw [g3, b2, nI_add]; rfl
    · rw [g5.2.1 3 (by unfold SDr; omega)]; exact b4
  · intro fu s hs
    rw [e_X10_goesOn_7]
    simp (disch := omega) only [↓reduceIte, ic_t, ic_f, not_true_eq_false, not_false_eq_true, ↓lt_v, rdR, rdE, rdS, leT, leTc, leTd, leF, leFc, leFd, ltT, ltTc, ltTd, ltF, ltFc, ltFd, eqT, eqTc, eqTd, eqF, eqFc, eqFd, m1T, m1F, m1T', m1F', inb_nI, ix_nI, inb_c, ix_c, nI_1, nI_pred, nI_m1, add_nIc, add_cnI, bd_v, reduceCtorEq, eqFcc, m1e0, m1e1, m1l0, m1g0, m2l0, m2g0, Int32.reduceLT, Int32.reduceLE, Int32.reduceAdd, Int32.reduceSub, Int32.reduceMul, eq_self, Bool.false_eq_true]
    exact ok_some hs
  · intro i hi
    simp (disch := omega) only [↓reduceIte, ic_t, ic_f, not_true_eq_false, not_false_eq_true, ↓lt_v, rdR, rdE, rdS, leT, leTc, leTd, leF, leFc, leFd, ltT, ltTc, ltTd, ltF, ltFc, ltFd, eqT, eqTc, eqTd, eqF, eqFc, eqFd, m1T, m1F, m1T', m1F', inb_nI, ix_nI, inb_c, ix_c, nI_1, nI_pred, nI_m1, add_nIc, add_cnI, bd_v, reduceCtorEq, eqFcc, m1e0, m1e1, m1l0, m1g0, m2l0, m2g0, Int32.reduceLT, Int32.reduceLE, Int32.reduceAdd, Int32.reduceSub, Int32.reduceMul, eq_self, Bool.false_eq_true]
    exact hv i hi
  · simp (disch := omega) only [↓reduceIte, ic_t, ic_f, not_true_eq_false, not_false_eq_true, ↓lt_v, rdR, rdE, rdS, leT, leTc, leTd, leF, leFc, leFd, ltT, ltTc, ltTd, ltF, ltFc, ltFd, eqT, eqTc, eqTd, eqF, eqFc, eqFd, m1T, m1F, m1T', m1F', inb_nI, ix_nI, inb_c, ix_c, nI_1, nI_pred, nI_m1, add_nIc, add_cnI, bd_v, reduceCtorEq, eqFcc, m1e0, m1e1, m1l0, m1g0, m2l0, m2g0, Int32.reduceLT, Int32.reduceLE, Int32.reduceAdd, Int32.reduceSub, Int32.reduceMul, eq_self, Bool.false_eq_true]; rfl
  · exact ruR_fr hu (row_n (by omega)) (by simp (disch := omega) only [↓reduceIte, ic_t, ic_f, not_true_eq_false, not_false_eq_true, ↓lt_v, rdR, rdE, rdS, leT, leTc, leTd, leF, leFc, leFd, ltT, ltTc, ltTd, ltF, ltFc, ltFd, eqT, eqTc, eqTd, eqF, eqFc, eqFd, m1T, m1F, m1T', m1F', inb_nI, ix_nI, inb_c, ix_c, nI_1, nI_pred, nI_m1, add_nIc, add_cnI, bd_v, reduceCtorEq, eqFcc, m1e0, m1e1, m1l0, m1g0, m2l0, m2g0, Int32.reduceLT, Int32.reduceLE, Int32.reduceAdd, Int32.reduceSub, Int32.reduceMul, eq_self, Bool.false_eq_true])
  · simp (disch := omega) only [↓reduceIte, ic_t, ic_f, not_true_eq_false, not_false_eq_true, ↓lt_v, rdR, rdE, rdS, leT, leTc, leTd, leF, leFc, leFd, ltT, ltTc, ltTd, ltF, ltFc, ltFd, eqT, eqTc, eqTd, eqF, eqFc, eqFd, m1T, m1F, m1T', m1F', inb_nI, ix_nI, inb_c, ix_c, nI_1, nI_pred, nI_m1, add_nIc, add_cnI, bd_v, reduceCtorEq, eqFcc, m1e0, m1e1, m1l0, m1g0, m2l0, m2g0, Int32.reduceLT, Int32.reduceLE, Int32.reduceAdd, Int32.reduceSub, Int32.reduceMul, eq_self, Bool.false_eq_true, h0]
  · exact frR_sI (by omega) (by unfold SDr; omega)
