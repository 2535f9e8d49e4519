/-! PURE: who touched whom; race, over, lies -/
def fq (A : Nat → Int32) (m : Nat) (x : Int32) : Nat := nx (fun i => decide (A i = x)) m m
def tq (A B : Nat → Int32) (m : Nat) (x : Int32) : Int32 := if fq A m x = 0 then -1 else B (fq A m x - 1)
theorem fq_le (A : Nat → Int32) (m : Nat) (x : Int32) : fq A m x ≤ m := nx_le _ m m (Nat.le_refl _)
theorem ln113 : ln 113 = 3 := by decide
theorem ln114 : ln 114 = 3 := by decide
theorem c_pairOf_l {M : Mem} {a m : Nat} {A : Nat → Int32} {x : Int32} (hl : ln a = 3) (hm : m ≤ 3) (h5 : M.1 108 5 = nI m) (hA : ∀ i, i < m → M.1 a i = A i) : ∀ (d fu : Nat), d < fu → d ≤ m → fX3_pairOf_2 fu a x (nI (m - d)) M = some (nI (nx (fun i => decide (A i = x)) m d) - 1, M) := by
  intro d
  induction d with
  | zero =>
    intro fu hf _
    obtain ⟨fu, rfl⟩ : ∃ m, fu = m + 1 := ⟨fu - 1, by omega⟩
    rw [e_X3_pairOf_2]
    simp (disch := omega) only [↓reduceIte, ic_t, ic_f, not_true_eq_false, not_false_eq_true, ↓lt_v, rdR, rdE, rdS, leT, leTc, leTd, leF, leFc, leFd, ltT, ltTc, ltTd, ltF, ltFc, ltFd, eqT, eqTc, eqTd, eqF, eqFc, eqFd, m1T, m1F, m1T', m1F', inb_nI, ix_nI, inb_c, ix_c, nI_1, nI_pred, nI_m1, add_nIc, add_cnI, bd_v, reduceCtorEq, eqFcc, m1e0, m1e1, m1l0, m1g0, m2l0, m2g0, Int32.reduceLT, Int32.reduceLE, Int32.reduceAdd, Int32.reduceSub, Int32.reduceMul, eq_self, Bool.false_eq_true, h5, nx]; rfl
  | succ d ih =>
    intro fu hf hk
    obtain ⟨fu, rfl⟩ : ∃ m, fu = m + 1 := ⟨fu - 1, by omega⟩
    have e : m - (d + 1) + 1 = m - d := by omega
    rw [e_X3_pairOf_2]
    simp (disch := omega) only [↓reduceIte, ic_t, ic_f, not_true_eq_false, not_false_eq_true, ↓lt_v, rdR, rdE, rdS, leT, leTc, leTd, leF, leFc, leFd, ltT, ltTc, ltTd, ltF, ltFc, ltFd, eqT, eqTc, eqTd, eqF, eqFc, eqFd, m1T, m1F, m1T', m1F', inb_nI, ix_nI, inb_c, ix_c, nI_1, nI_pred, nI_m1, add_nIc, add_cnI, bd_v, reduceCtorEq, eqFcc, m1e0, m1e1, m1l0, m1g0, m2l0, m2g0, Int32.reduceLT, Int32.reduceLE, Int32.reduceAdd, Int32.reduceSub, Int32.reduceMul, eq_self, Bool.false_eq_true, h5, hl, hA, nx, e]
    by_cases h : A (m - (d + 1)) = x
    · rw [ic_pos h, decide_eq_true h]
      simp (disch := omega) only [↓reduceIte, ic_t, ic_f, not_true_eq_false, not_false_eq_true, ↓lt_v, rdR, rdE, rdS, leT, leTc, leTd, leF, leFc, leFd, ltT, ltTc, ltTd, ltF, ltFc, ltFd, eqT, eqTc, eqTd, eqF, eqFc, eqFd, m1T, m1F, m1T', m1F', inb_nI, ix_nI, inb_c, ix_c, nI_1, nI_pred, nI_m1, add_nIc, add_cnI, bd_v, reduceCtorEq, eqFcc, m1e0, m1e1, m1l0, m1g0, m2l0, m2g0, Int32.reduceLT, Int32.reduceLE, Int32.reduceAdd, Int32.reduceSub, Int32.reduceMul, eq_self, Bool.false_eq_true]
      rw [← e, nI_pred]
    · rw [ic_neg h, decide_eq_false h]
      simp (disch := omega) only [↓reduceIte, ic_t, ic_f, not_true_eq_false, not_false_eq_true, ↓lt_v, rdR, rdE, rdS, leT, leTc, leTd, leF, leFc, leFd, ltT, ltTc, ltTd, ltF, ltFc, ltFd, eqT, eqTc, eqTd, eqF, eqFc, eqFd, m1T, m1F, m1T', m1F', inb_nI, ix_nI, inb_c, ix_c, nI_1, nI_pred, nI_m1, add_nIc, add_cnI, bd_v, reduceCtorEq, eqFcc, m1e0, m1e1, m1l0, m1g0, m2l0, m2g0, Int32.reduceLT, Int32.reduceLE, Int32.reduceAdd, Int32.reduceSub, Int32.reduceMul, eq_self, Bool.false_eq_true, ih]
theorem c_pairOf {M : Mem} {a m : Nat} {A : Nat → Int32} {x : Int32} (hl : ln a = 3) (hm : m ≤ 3) (h5 : M.1 108 5 = nI m) (hA : ∀ i, i < m → M.1 a i = A i) : fX3_pairOf a x M = some (nI (fq A m x) - 1, M) := by
  rw [e_X3_pairOf]
  have := c_pairOf_l (x := x) hl hm h5 hA m FU (FU_gt (by omega)) (Nat.le_refl _)
  rw [Nat.sub_self] at this
  exact this
theorem c_tq {M : Mem} {n : Nat} {L : Nat → Int32} {T : TS} {x : Int32} (hm : T.2.1 ≤ 3) (hc : RcC n L T M) : fX3_touchedBy x M = some (tq T.2.2.2.1 T.2.2.2.2 T.2.1 x, M) ∧ fX3_toucherOf x M = some (tq T.2.2.2.2 T.2.2.2.1 T.2.1 x, M) ∧ fX3_strokeBy x M = some (tq T.2.2.2.1 T.2.2.1 T.2.1 x, M) := by
  obtain ⟨c1, c2, c3, c4, c5, c6⟩ := hc
  have p1 := c_pairOf (x := x) ln113 hm c5 (fun i hi => (c6 i hi).2.1)
  have p2 := c_pairOf (x := x) ln114 hm c5 (fun i hi => (c6 i hi).2.2)
  have l1 := fq_le T.2.2.2.1 T.2.1 x
  have l2 := fq_le T.2.2.2.2 T.2.1 x
  rw [e_X3_touchedBy, e_X3_toucherOf, e_X3_strokeBy]
  simp (disch := omega) only [↓reduceIte, ic_t, ic_f, not_true_eq_false, not_false_eq_true, ↓lt_v, rdR, rdE, rdS, leT, leTc, leTd, leF, leFc, leFd, ltT, ltTc, ltTd, ltF, ltFc, ltFd, eqT, eqTc, eqTd, eqF, eqFc, eqFd, m1T, m1F, m1T', m1F', inb_nI, ix_nI, inb_c, ix_c, nI_1, nI_pred, nI_m1, add_nIc, add_cnI, bd_v, reduceCtorEq, eqFcc, m1e0, m1e1, m1l0, m1g0, m2l0, m2g0, Int32.reduceLT, Int32.reduceLE, Int32.reduceAdd, Int32.reduceSub, Int32.reduceMul, eq_self, Bool.false_eq_true, p1, p2]
  unfold tq
  refine ⟨?_, ?_, ?_⟩
  · by_cases h : fq T.2.2.2.1 T.2.1 x = 0
    · simp (disch := omega) only [↓reduceIte, ic_t, ic_f, not_true_eq_false, not_false_eq_true, ↓lt_v, rdR, rdE, rdS, leT, leTc, leTd, leF, leFc, leFd, ltT, ltTc, ltTd, ltF, ltFc, ltFd, eqT, eqTc, eqTd, eqF, eqFc, eqFd, m1T, m1F, m1T', m1F', inb_nI, ix_nI, inb_c, ix_c, nI_1, nI_pred, nI_m1, add_nIc, add_cnI, bd_v, reduceCtorEq, eqFcc, m1e0, m1e1, m1l0, m1g0, m2l0, m2g0, Int32.reduceLT, Int32.reduceLE, Int32.reduceAdd, Int32.reduceSub, Int32.reduceMul, eq_self, Bool.false_eq_true, h]
    · obtain ⟨i, hi⟩ : ∃ i, fq T.2.2.2.1 T.2.1 x = i + 1 := ⟨fq T.2.2.2.1 T.2.1 x - 1, by omega⟩
      have := c6 i (by omega)
      simp (disch := omega) only [↓reduceIte, ic_t, ic_f, not_true_eq_false, not_false_eq_true, ↓lt_v, rdR, rdE, rdS, leT, leTc, leTd, leF, leFc, leFd, ltT, ltTc, ltTd, ltF, ltFc, ltFd, eqT, eqTc, eqTd, eqF, eqFc, eqFd, m1T, m1F, m1T', m1F', inb_nI, ix_nI, inb_c, ix_c, nI_1, nI_pred, nI_m1, add_nIc, add_cnI, bd_v, reduceCtorEq, eqFcc, m1e0, m1e1, m1l0, m1g0, m2l0, m2g0, Int32.reduceLT, Int32.reduceLE, Int32.reduceAdd, Int32.reduceSub, Int32.reduceMul, eq_self, Bool.false_eq_true, hi, this.2.2]
      simp
  · by_cases h : fq T.2.2.2.2 T.2.1 x = 0
    · simp (disch := omega) only [↓reduceIte, ic_t, ic_f, not_true_eq_false, not_false_eq_true, ↓lt_v, rdR, rdE, rdS, leT, leTc, leTd, leF, leFc, leFd, ltT, ltTc, ltTd, ltF, ltFc, ltFd, eqT, eqTc, eqTd, eqF, eqFc, eqFd, m1T, m1F, m1T', m1F', inb_nI, ix_nI, inb_c, ix_c, nI_1, nI_pred, nI_m1, add_nIc, add_cnI, bd_v, reduceCtorEq, eqFcc, m1e0, m1e1, m1l0, m1g0, m2l0, m2g0, Int32.reduceLT, Int32.reduceLE, Int32.reduceAdd, Int32.reduceSub, Int32.reduceMul, eq_self, Bool.false_eq_true, h]
    · obtain ⟨i, hi⟩ : ∃ i, fq T.2.2.2.2 T.2.1 x = i + 1 := ⟨fq T.2.2.2.2 T.2.1 x - 1, by omega⟩
      have := c6 i (by omega)
      simp (disch := omega) only [↓reduceIte, ic_t, ic_f, not_true_eq_false, not_false_eq_true, ↓lt_v, rdR, rdE, rdS, leT, leTc, leTd, leF, leFc, leFd, ltT, ltTc, ltTd, ltF, ltFc, ltFd, eqT, eqTc, eqTd, eqF, eqFc, eqFd, m1T, m1F, m1T', m1F', inb_nI, ix_nI, inb_c, ix_c, nI_1, nI_pred, nI_m1, add_nIc, add_cnI, bd_v, reduceCtorEq, eqFcc, m1e0, m1e1, m1l0, m1g0, m2l0, m2g0, Int32.reduceLT, Int32.reduceLE, Int32.reduceAdd, Int32.reduceSub, Int32.reduceMul, eq_self, Bool.false_eq_true, hi, this.2.1]
      simp
  · by_cases h : fq T.2.2.2.1 T.2.1 x = 0
    · simp (disch := omega) only [↓reduceIte, ic_t, ic_f, not_true_eq_false, not_false_eq_true, ↓lt_v, rdR, rdE, rdS, leT, leTc, leTd, leF, leFc, leFd, ltT, ltTc, ltTd, ltF, ltFc, ltFd, eqT, eqTc, eqTd, eqF, eqFc, eqFd, m1T, m1F, m1T', m1F', inb_nI, ix_nI, inb_c, ix_c, nI_1, nI_pred, nI_m1, add_nIc, add_cnI, bd_v, reduceCtorEq, eqFcc, m1e0, m1e1, m1l0, m1g0, m2l0, m2g0, Int32.reduceLT, Int32.reduceLE, Int32.reduceAdd, Int32.reduceSub, Int32.reduceMul, eq_self, Bool.false_eq_true, h]
    · obtain ⟨i, hi⟩ : ∃ i, fq T.2.2.2.1 T.2.1 x = i + 1 := ⟨fq T.2.2.2.1 T.2.1 x - 1, by omega⟩
      have := c6 i (by omega)
      simp (disch := omega) only [↓reduceIte, ic_t, ic_f, not_true_eq_false, not_false_eq_true, ↓lt_v, rdR, rdE, rdS, leT, leTc, leTd, leF, leFc, leFd, ltT, ltTc, ltTd, ltF, ltFc, ltFd, eqT, eqTc, eqTd, eqF, eqFc, eqFd, m1T, m1F, m1T', m1F', inb_nI, ix_nI, inb_c, ix_c, nI_1, nI_pred, nI_m1, add_nIc, add_cnI, bd_v, reduceCtorEq, eqFcc, m1e0, m1e1, m1l0, m1g0, m2l0, m2g0, Int32.reduceLT, Int32.reduceLE, Int32.reduceAdd, Int32.reduceSub, Int32.reduceMul, eq_self, Bool.false_eq_true, hi, this.1]
      simp
theorem r_touchOf {M : Mem} {n : Nat} {o : Nat → Nat} {L : Nat → Int32} {T : TS} {x : Int32} (hm : T.2.1 ≤ 3) (hc : RcR n o L T M) : fX10_touchOf x M = some (nI (fq T.2.2.2.1 T.2.1 x) - 1, M) := by
  obtain ⟨c1, c2, c3, c4, c5, c6⟩ := hc
  have h : ∀ (d fu : Nat), d < fu → d ≤ T.2.1 → fX10_touchOf_2 fu x (nI (T.2.1 - d)) M = some (nI (nx (fun i => decide (T.2.2.2.1 i = x)) T.2.1 d) - 1, M) := by
    intro d
    induction d with
    | zero =>
      intro fu hf _
      obtain ⟨fu, rfl⟩ : ∃ m, fu = m + 1 := ⟨fu - 1, by omega⟩
      rw [e_X10_touchOf_2]
      simp (disch := omega) only [↓reduceIte, ic_t, ic_f, not_true_eq_false, not_false_eq_true, ↓lt_v, rdR, rdE, rdS, leT, leTc, leTd, leF, leFc, leFd, ltT, ltTc, ltTd, ltF, ltFc, ltFd, eqT, eqTc, eqTd, eqF, eqFc, eqFd, m1T, m1F, m1T', m1F', inb_nI, ix_nI, inb_c, ix_c, nI_1, nI_pred, nI_m1, add_nIc, add_cnI, bd_v, reduceCtorEq, eqFcc, m1e0, m1e1, m1l0, m1g0, m2l0, m2g0, Int32.reduceLT, Int32.reduceLE, Int32.reduceAdd, Int32.reduceSub, Int32.reduceMul, eq_self, Bool.false_eq_true, c5, nx]; rfl
    | succ d ih =>
      intro fu hf hk
      obtain ⟨fu, rfl⟩ : ∃ m, fu = m + 1 := ⟨fu - 1, by omega⟩
      have e : T.2.1 - (d + 1) + 1 = T.2.1 - d := by omega
      have g := (c6 (T.2.1 - (d + 1)) (by omega)).2.1
      rw [e_X10_touchOf_2]
      simp (disch := omega) only [↓reduceIte, ic_t, ic_f, not_true_eq_false, not_false_eq_true, ↓lt_v, rdR, rdE, rdS, leT, leTc, leTd, leF, leFc, leFd, ltT, ltTc, ltTd, ltF, ltFc, ltFd, eqT, eqTc, eqTd, eqF, eqFc, eqFd, m1T, m1F, m1T', m1F', inb_nI, ix_nI, inb_c, ix_c, nI_1, nI_pred, nI_m1, add_nIc, add_cnI, bd_v, reduceCtorEq, eqFcc, m1e0, m1e1, m1l0, m1g0, m2l0, m2g0, Int32.reduceLT, Int32.reduceLE, Int32.reduceAdd, Int32.reduceSub, Int32.reduceMul, eq_self, Bool.false_eq_true, c5, g, nx, e]
      by_cases h : T.2.2.2.1 (T.2.1 - (d + 1)) = x
      · rw [ic_pos h, decide_eq_true h]
        simp (disch := omega) only [↓reduceIte, ic_t, ic_f, not_true_eq_false, not_false_eq_true, ↓lt_v, rdR, rdE, rdS, leT, leTc, leTd, leF, leFc, leFd, ltT, ltTc, ltTd, ltF, ltFc, ltFd, eqT, eqTc, eqTd, eqF, eqFc, eqFd, m1T, m1F, m1T', m1F', inb_nI, ix_nI, inb_c, ix_c, nI_1, nI_pred, nI_m1, add_nIc, add_cnI, bd_v, reduceCtorEq, eqFcc, m1e0, m1e1, m1l0, m1g0, m2l0, m2g0, Int32.reduceLT, Int32.reduceLE, Int32.reduceAdd, Int32.reduceSub, Int32.reduceMul, eq_self, Bool.false_eq_true]
        rw [← e, nI_pred]
      · rw [ic_neg h, decide_eq_false h]
        simp (disch := omega) only [↓reduceIte, ic_t, ic_f, not_true_eq_false, not_false_eq_true, ↓lt_v, rdR, rdE, rdS, leT, leTc, leTd, leF, leFc, leFd, ltT, ltTc, ltTd, ltF, ltFc, ltFd, eqT, eqTc, eqTd, eqF, eqFc, eqFd, m1T, m1F, m1T', m1F', inb_nI, ix_nI, inb_c, ix_c, nI_1, nI_pred, nI_m1, add_nIc, add_cnI, bd_v, reduceCtorEq, eqFcc, m1e0, m1e1, m1l0, m1g0, m2l0, m2g0, Int32.reduceLT, Int32.reduceLE, Int32.reduceAdd, Int32.reduceSub, Int32.reduceMul, eq_self, Bool.false_eq_true, ih]
  have := h T.2.1 FU (FU_gt (by omega)) (Nat.le_refl _)
  rw [e_X10_touchOf]
  rw [Nat.sub_self] at this
  exact this
theorem r_touchedBy {M : Mem} {n : Nat} {o : Nat → Nat} {L : Nat → Int32} {T : TS} {x : Int32} (hm : T.2.1 ≤ 3) (hc : RcR n o L T M) : fX10_touchedBy x M = some (tq T.2.2.2.2 T.2.2.2.1 T.2.1 x, M) := by
  obtain ⟨c1, c2, c3, c4, c5, c6⟩ := hc
  have h : ∀ (d fu : Nat), d < fu → d ≤ T.2.1 → fX10_touchedBy_2 fu x (nI (T.2.1 - d)) M = some (if nx (fun i => decide (T.2.2.2.2 i = x)) T.2.1 d = 0 then -1 else T.2.2.2.1 (nx (fun i => decide (T.2.2.2.2 i = x)) T.2.1 d - 1), M) := by
    intro d
    induction d with
    | zero =>
      intro fu hf _
      obtain ⟨fu, rfl⟩ : ∃ m, fu = m + 1 := ⟨fu - 1, by omega⟩
      rw [e_X10_touchedBy_2]
      simp (disch := omega) only [↓reduceIte, ic_t, ic_f, not_true_eq_false, not_false_eq_true, ↓lt_v, rdR, rdE, rdS, leT, leTc, leTd, leF, leFc, leFd, ltT, ltTc, ltTd, ltF, ltFc, ltFd, eqT, eqTc, eqTd, eqF, eqFc, eqFd, m1T, m1F, m1T', m1F', inb_nI, ix_nI, inb_c, ix_c, nI_1, nI_pred, nI_m1, add_nIc, add_cnI, bd_v, reduceCtorEq, eqFcc, m1e0, m1e1, m1l0, m1g0, m2l0, m2g0, Int32.reduceLT, Int32.reduceLE, Int32.reduceAdd, Int32.reduceSub, Int32.reduceMul, eq_self, Bool.false_eq_true, c5, nx]
    | succ d ih =>
      intro fu hf hk
      obtain ⟨fu, rfl⟩ : ∃ m, fu = m + 1 := ⟨fu - 1, by omega⟩
      have e : T.2.1 - (d + 1) + 1 = T.2.1 - d := by omega
      have g := c6 (T.2.1 - (d + 1)) (by omega)
      rw [e_X10_touchedBy_2]
      simp (disch := omega) only [↓reduceIte, ic_t, ic_f, not_true_eq_false, not_false_eq_true, ↓lt_v, rdR, rdE, rdS, leT, leTc, leTd, leF, leFc, leFd, ltT, ltTc, ltTd, ltF, ltFc, ltFd, eqT, eqTc, eqTd, eqF, eqFc, eqFd, m1T, m1F, m1T', m1F', inb_nI, ix_nI, inb_c, ix_c, nI_1, nI_pred, nI_m1, add_nIc, add_cnI, bd_v, reduceCtorEq, eqFcc, m1e0, m1e1, m1l0, m1g0, m2l0, m2g0, Int32.reduceLT, Int32.reduceLE, Int32.reduceAdd, Int32.reduceSub, Int32.reduceMul, eq_self, Bool.false_eq_true, c5, g.2.2, g.2.1, nx, e]
      by_cases h : T.2.2.2.2 (T.2.1 - (d + 1)) = x
      · rw [ic_pos h, decide_eq_true h]
        simp (disch := omega) only [↓reduceIte, ic_t, ic_f, not_true_eq_false, not_false_eq_true, ↓lt_v, rdR, rdE, rdS, leT, leTc, leTd, leF, leFc, leFd, ltT, ltTc, ltTd, ltF, ltFc, ltFd, eqT, eqTc, eqTd, eqF, eqFc, eqFd, m1T, m1F, m1T', m1F', inb_nI, ix_nI, inb_c, ix_c, nI_1, nI_pred, nI_m1, add_nIc, add_cnI, bd_v, reduceCtorEq, eqFcc, m1e0, m1e1, m1l0, m1g0, m2l0, m2g0, Int32.reduceLT, Int32.reduceLE, Int32.reduceAdd, Int32.reduceSub, Int32.reduceMul, eq_self, Bool.false_eq_true]
        rw [if_neg (by omega), ← e, Nat.add_sub_cancel]
      · rw [ic_neg h, decide_eq_false h]
        simp (disch := omega) only [↓reduceIte, ic_t, ic_f, not_true_eq_false, not_false_eq_true, ↓lt_v, rdR, rdE, rdS, leT, leTc, leTd, leF, leFc, leFd, ltT, ltTc, ltTd, ltF, ltFc, ltFd, eqT, eqTc, eqTd, eqF, eqFc, eqFd, m1T, m1F, m1T', m1F', inb_nI, ix_nI, inb_c, ix_c, nI_1, nI_pred, nI_m1, add_nIc, add_cnI, bd_v, reduceCtorEq, eqFcc, m1e0, m1e1, m1l0, m1g0, m2l0, m2g0, Int32.reduceLT, Int32.reduceLE, Int32.reduceAdd, Int32.reduceSub, Int32.reduceMul, eq_self, Bool.false_eq_true, ih]
  have := h T.2.1 FU (FU_gt (by omega)) (Nat.le_refl _)
  rw [e_X10_touchedBy]
  rw [Nat.sub_self] at this
  exact this
/-- bits of touches -/
def bts (A : Nat → Int32) : Nat → Int32
  | 0 => 0
  | i + 1 => bts A i ||| (1 <<< (A i &&& 31))
theorem c_bitsOf {M : Mem} {a m : Nat} {A : Nat → Int32} (hl : ln a = 3) (hm : m ≤ 3) (h5 : M.1 108 5 = nI m) (hA : ∀ i, i < m → M.1 a i = A i) : fX3_bitsOf a M = some (bts A m, M) := by
  have : Ok (fX3_bitsOf a M) (fun q => q = (bts A m, M)) := by
    rw [e_X3_bitsOf]
    have hFU : 2000 < FU := FU_big
    generalize FU = fu0 at hFU ⊢
    refine ok_loop m (fun fu k (s : Int32) => fX3_bitsOf_4 fu a s (nI k) M) (fun k (s : Int32) => s = bts A k) ?_ ?_ fu0 0 0 (by omega) (by omega) rfl
    · intro fu k s hk hs ih
      rw [e_X3_bitsOf_4]
      simp (disch := omega) only [↓reduceIte, ic_t, ic_f, not_true_eq_false, not_false_eq_true, ↓lt_v, rdR, rdE, rdS, leT, leTc, leTd, leF, leFc, leFd, ltT, ltTc, ltTd, ltF, ltFc, ltFd, eqT, eqTc, eqTd, eqF, eqFc, eqFd, m1T, m1F, m1T', m1F', inb_nI, ix_nI, inb_c, ix_c, nI_1, nI_pred, nI_m1, add_nIc, add_cnI, bd_v, reduceCtorEq, eqFcc, m1e0, m1e1, m1l0, m1g0, m2l0, m2g0, Int32.reduceLT, Int32.reduceLE, Int32.reduceAdd, Int32.reduceSub, Int32.reduceMul, eq_self, Bool.false_eq_true, h5, hl, hA, hs]
      exact ih _ rfl
    · intro fu s hs
      rw [e_X3_bitsOf_4]
      simp (disch := omega) only [↓reduceIte, ic_t, ic_f, not_true_eq_false, not_false_eq_true, ↓lt_v, rdR, rdE, rdS, leT, leTc, leTd, leF, leFc, leFd, ltT, ltTc, ltTd, ltF, ltFc, ltFd, eqT, eqTc, eqTd, eqF, eqFc, eqFd, m1T, m1F, m1T', m1F', inb_nI, ix_nI, inb_c, ix_c, nI_1, nI_pred, nI_m1, add_nIc, add_cnI, bd_v, reduceCtorEq, eqFcc, m1e0, m1e1, m1l0, m1g0, m2l0, m2g0, Int32.reduceLT, Int32.reduceLE, Int32.reduceAdd, Int32.reduceSub, Int32.reduceMul, eq_self, Bool.false_eq_true, h5, hs]
      exact ok_some rfl
  obtain ⟨q, h1, h2⟩ := this
  rw [h1, h2]
theorem c_bits {M : Mem} {n : Nat} {L : Nat → Int32} {T : TS} (hm : T.2.1 ≤ 3) (hc : RcC n L T M) : fX3_touchers M = some (bts T.2.2.2.1 T.2.1, M) ∧ fX3_touchedOnes M = some (bts T.2.2.2.2 T.2.1, M) := by
  obtain ⟨c1, c2, c3, c4, c5, c6⟩ := hc
  have p1 := c_bitsOf ln113 hm c5 (fun i hi => (c6 i hi).2.1)
  have p2 := c_bitsOf ln114 hm c5 (fun i hi => (c6 i hi).2.2)
  rw [e_X3_touchers, e_X3_touchedOnes]
  simp (disch := omega) only [↓reduceIte, ic_t, ic_f, not_true_eq_false, not_false_eq_true, ↓lt_v, rdR, rdE, rdS, leT, leTc, leTd, leF, leFc, leFd, ltT, ltTc, ltTd, ltF, ltFc, ltFd, eqT, eqTc, eqTd, eqF, eqFc, eqFd, m1T, m1F, m1T', m1F', inb_nI, ix_nI, inb_c, ix_c, nI_1, nI_pred, nI_m1, add_nIc, add_cnI, bd_v, reduceCtorEq, eqFcc, m1e0, m1e1, m1l0, m1g0, m2l0, m2g0, Int32.reduceLT, Int32.reduceLE, Int32.reduceAdd, Int32.reduceSub, Int32.reduceMul, eq_self, Bool.false_eq_true, p1, p2]
  exact ⟨trivial, trivial⟩
theorem r_bits {M : Mem} {n : Nat} {o : Nat → Nat} {L : Nat → Int32} {T : TS} (hm : T.2.1 ≤ 3) (hc : RcR n o L T M) : fX10_touchers 1 M = some (bts T.2.2.2.1 T.2.1, M) ∧ fX10_touchers 0 M = some (bts T.2.2.2.2 T.2.1, M) := by
  obtain ⟨c1, c2, c3, c4, c5, c6⟩ := hc
  have g1 : Ok (fX10_touchers 1 M) (fun q => q = (bts T.2.2.2.1 T.2.1, M)) := by
    rw [e_X10_touchers]
    have hFU : 2000 < FU := FU_big
    generalize FU = fu0 at hFU ⊢
    refine ok_loop T.2.1 (fun fu k (s : Int32) => fX10_touchers_4 fu 1 s (nI k) M) (fun k (s : Int32) => s = bts T.2.2.2.1 k) ?_ ?_ fu0 0 0 (by omega) (by omega) rfl
    · intro fu k s hk hs ih
      have g := c6 k hk
      rw [e_X10_touchers_4]
      simp (disch := omega) only [↓reduceIte, ic_t, ic_f, not_true_eq_false, not_false_eq_true, ↓lt_v, rdR, rdE, rdS, leT, leTc, leTd, leF, leFc, leFd, ltT, ltTc, ltTd, ltF, ltFc, ltFd, eqT, eqTc, eqTd, eqF, eqFc, eqFd, m1T, m1F, m1T', m1F', inb_nI, ix_nI, inb_c, ix_c, nI_1, nI_pred, nI_m1, add_nIc, add_cnI, bd_v, reduceCtorEq, eqFcc, m1e0, m1e1, m1l0, m1g0, m2l0, m2g0, Int32.reduceLT, Int32.reduceLE, Int32.reduceAdd, Int32.reduceSub, Int32.reduceMul, eq_self, Bool.false_eq_true, c5, g.2.1, hs]
      exact ih _ rfl
    · intro fu s hs
      rw [e_X10_touchers_4]
      simp (disch := omega) only [↓reduceIte, ic_t, ic_f, not_true_eq_false, not_false_eq_true, ↓lt_v, rdR, rdE, rdS, leT, leTc, leTd, leF, leFc, leFd, ltT, ltTc, ltTd, ltF, ltFc, ltFd, eqT, eqTc, eqTd, eqF, eqFc, eqFd, m1T, m1F, m1T', m1F', inb_nI, ix_nI, inb_c, ix_c, nI_1, nI_pred, nI_m1, add_nIc, add_cnI, bd_v, reduceCtorEq, eqFcc, m1e0, m1e1, m1l0, m1g0, m2l0, m2g0, Int32.reduceLT, Int32.reduceLE, Int32.reduceAdd, Int32.reduceSub, Int32.reduceMul, eq_self, Bool.false_eq_true, c5, hs]
      exact ok_some rfl
  have g2 : Ok (fX10_touchers 0 M) (fun q => q = (bts T.2.2.2.2 T.2.1, M)) := by
    rw [e_X10_touchers]
    have hFU : 2000 < FU := FU_big
    generalize FU = fu0 at hFU ⊢
    refine ok_loop T.2.1 (fun fu k (s : Int32) => fX10_touchers_4 fu 0 s (nI k) M) (fun k (s : Int32) => s = bts T.2.2.2.2 k) ?_ ?_ fu0 0 0 (by omega) (by omega) rfl
    · intro fu k s hk hs ih
      have g := c6 k hk
      rw [e_X10_touchers_4]
      simp (disch := omega) only [↓reduceIte, ic_t, ic_f, not_true_eq_false, not_false_eq_true, ↓lt_v, rdR, rdE, rdS, leT, leTc, leTd, leF, leFc, leFd, ltT, ltTc, ltTd, ltF, ltFc, ltFd, eqT, eqTc, eqTd, eqF, eqFc, eqFd, m1T, m1F, m1T', m1F', inb_nI, ix_nI, inb_c, ix_c, nI_1, nI_pred, nI_m1, add_nIc, add_cnI, bd_v, reduceCtorEq, eqFcc, m1e0, m1e1, m1l0, m1g0, m2l0, m2g0, Int32.reduceLT, Int32.reduceLE, Int32.reduceAdd, Int32.reduceSub, Int32.reduceMul, eq_self, Bool.false_eq_true, c5, g.2.2, hs]
      exact ih _ rfl
    · intro fu s hs
      rw [e_X10_touchers_4]
      simp (disch := omega) only [↓reduceIte, ic_t, ic_f, not_true_eq_false, not_false_eq_true, ↓lt_v, rdR, rdE, rdS, leT, leTc, leTd, leF, leFc, leFd, ltT, ltTc, ltTd, ltF, ltFc, ltFd, eqT, eqTc, eqTd, eqF, eqFc, eqFd, m1T, m1F, m1T', m1F', inb_nI, ix_nI, inb_c, ix_c, nI_1, nI_pred, nI_m1, add_nIc, add_cnI, bd_v, reduceCtorEq, eqFcc, m1e0, m1e1, m1l0, m1g0, m2l0, m2g0, Int32.reduceLT, Int32.reduceLE, Int32.reduceAdd, Int32.reduceSub, Int32.reduceMul, eq_self, Bool.false_eq_true, c5, hs]
      exact ok_some rfl
  obtain ⟨q, h1, h2⟩ := g1
  obtain ⟨q', h1', h2'⟩ := g2
  rw [h1, h2, h1', h2']
  exact ⟨rfl, rfl⟩
def gob (o : Nat → Nat) (G : Nat → Bool) : Nat → Nat
  | 0 => 0
  | k + 1 => if G k = true then gob o G k ||| (1 <<< o k) else gob o G k
theorem bt_or : ∀ y, y < 64 → ∀ b, b < 6 → (nI y ||| (1 <<< (nI b &&& 31)) = nI (y ||| (1 <<< b)) ∧ y ||| (1 <<< b) < 64) ∧ ∀ c, c < 6 → (y ||| (1 <<< b)).testBit c = (y.testBit c || decide (c = b)) := by decide +kernel
theorem gob_p {n : Nat} {w : Nat → Int32} {o : Nat → Nat} {G : Nat → Bool} (hw : Wf n w o) : ∀ k, k ≤ n → gob o G k < 64 ∧ (∀ j, j < n → (gob o G k).testBit (o j) = (decide (j < k) && G j)) ∧ (∀ b, n ≤ b → b < 6 → (gob o G k).testBit b = false)
  | 0, _ => by
    refine ⟨show (0 : Nat) < 64 by decide, fun j _ => ?_, fun b _ _ => ?_⟩
    · show (0 : Nat).testBit (o j) = _; simp
    · show (0 : Nat).testBit b = _; simp
  | k + 1, hk => by
    obtain ⟨h1, h2, h3⟩ := gob_p (G := G) hw k (by omega)
    have hok := (hw.2.1 k (by omega)).1
    have hn := hw.1
    unfold gob
    by_cases hg : G k = true
    · rw [if_pos hg]
      obtain ⟨⟨_, b2⟩, b3⟩ := bt_or (gob o G k) h1 (o k) (by omega)
      refine ⟨b2, fun j hj => ?_, fun b hb hb6 => ?_⟩
      · have := (hw.2.1 j hj).1
        rw [b3 (o j) (by omega), h2 j hj]
        by_cases e : j = k
        · subst e; simp [hg]
        · have n1 : o j ≠ o k := fun q => e (wf_inj hw hj (by omega) q)
          by_cases e2 : j < k
          · simp [n1, e2, show j < k + 1 by omega]
          · simp [n1, e2, show ¬ j < k + 1 by omega]
      · rw [b3 b hb6, h3 b hb hb6]
        simp
        omega
    · rw [if_neg hg]
      refine ⟨h1, fun j hj => ?_, h3⟩
      rw [h2 j hj]
      by_cases e : j = k
      · subst e; simp [hg]
      · by_cases e2 : j < k
        · simp [e2, show j < k + 1 by omega]
        · simp [e2, show ¬ j < k + 1 by omega]
theorem bits_eq {x y : Nat} (hx : x < 64) (hy : y < 64) (h : ∀ b, b < 6 → x.testBit b = y.testBit b) : x = y := by
  refine Nat.eq_of_testBit_eq (fun i => ?_)
  rcases Nat.lt_or_ge i 6 with hi | hi
  · exact h i hi
  · have e : 64 ≤ 2 ^ i := Nat.pow_le_pow_right (n := 2) (by decide) hi
    rw [Nat.testBit_lt_two_pow (by omega), Nat.testBit_lt_two_pow (by omega)]
theorem r_racing {M : Mem} {n : Nat} {w : Nat → Int32} {o : Nat → Nat} {L : Nat → Int32} {T : TS} (hw : Wf n w o) (hc : RcR n o L T M) : M.1 169 23 = nI (gob o T.1 n) := by
  obtain ⟨c1, c2, c3, ⟨x, hx, x1, x2, x3⟩, c5, c6⟩ := hc
  obtain ⟨h1, h2, h3⟩ := gob_p (G := T.1) hw n (Nat.le_refl _)
  rw [x1, bits_eq hx h1 (fun b hb => ?_)]
  rcases Nat.lt_or_ge b n with h | h
  · obtain ⟨k, hk, rfl⟩ := hw.2.2.1 b h
    rw [x2 k hk, h2 k hk]
    simp [hk]
  · rw [x3 b h hb, h3 b h hb]
theorem c_goingOnes {M : Mem} {n r : Nat} {w : Nat → Int32} {o : Nat → Nat} {L : Nat → Int32} {T : TS} (hw : Wf n w o) (hc : RcC n L T M) (ho : ∀ k, k < n → M.1 (r + 4) k = nI (o k)) : fX3_goingOnes r M = some (nI (gob o T.1 n), M) := by
  obtain ⟨c1, c2, c3, c4, c5, c6⟩ := hc
  have hn := hw.1
  have : Ok (fX3_goingOnes r M) (fun q => q = (nI (gob o T.1 n), M)) := by
    rw [e_X3_goingOnes]
    have hFU : 2000 < FU := FU_big
    generalize FU = fu0 at hFU ⊢
    refine ok_loop n (fun fu k (s : Int32) => fX3_goingOnes_4 fu r s (nI k) M) (fun k (s : Int32) => s = nI (gob o T.1 k)) ?_ ?_ fu0 0 0 (by omega) (by omega) rfl
    · intro fu k s hk hs ih
      have hok := (hw.2.1 k hk).1
      rw [e_X3_goingOnes_4]
      simp (disch := omega) only [↓reduceIte, ic_t, ic_f, not_true_eq_false, not_false_eq_true, ↓lt_v, rdR, rdE, rdS, leT, leTc, leTd, leF, leFc, leFd, ltT, ltTc, ltTd, ltF, ltFc, ltFd, eqT, eqTc, eqTd, eqF, eqFc, eqFd, m1T, m1F, m1T', m1F', inb_nI, ix_nI, inb_c, ix_c, nI_1, nI_pred, nI_m1, add_nIc, add_cnI, bd_v, reduceCtorEq, eqFcc, m1e0, m1e1, m1l0, m1g0, m2l0, m2g0, Int32.reduceLT, Int32.reduceLE, Int32.reduceAdd, Int32.reduceSub, Int32.reduceMul, eq_self, Bool.false_eq_true, c1, c3, bI_0, ho, hs]
      cases hg : T.1 k
      · simp (disch := omega) only [↓reduceIte, ic_t, ic_f, not_true_eq_false, not_false_eq_true, ↓lt_v, rdR, rdE, rdS, leT, leTc, leTd, leF, leFc, leFd, ltT, ltTc, ltTd, ltF, ltFc, ltFd, eqT, eqTc, eqTd, eqF, eqFc, eqFd, m1T, m1F, m1T', m1F', inb_nI, ix_nI, inb_c, ix_c, nI_1, nI_pred, nI_m1, add_nIc, add_cnI, bd_v, reduceCtorEq, eqFcc, m1e0, m1e1, m1l0, m1g0, m2l0, m2g0, Int32.reduceLT, Int32.reduceLE, Int32.reduceAdd, Int32.reduceSub, Int32.reduceMul, eq_self, Bool.false_eq_true]
        refine ih _ ?_
        rw [show gob o T.1 (k + 1) = if T.1 k = true then gob o T.1 k ||| (1 <<< o k) else gob o T.1 k from rfl, hg]
        simp [Int32.or_zero]
      · simp (disch := omega) only [↓reduceIte, ic_t, ic_f, not_true_eq_false, not_false_eq_true, ↓lt_v, rdR, rdE, rdS, leT, leTc, leTd, leF, leFc, leFd, ltT, ltTc, ltTd, ltF, ltFc, ltFd, eqT, eqTc, eqTd, eqF, eqFc, eqFd, m1T, m1F, m1T', m1F', inb_nI, ix_nI, inb_c, ix_c, nI_1, nI_pred, nI_m1, add_nIc, add_cnI, bd_v, reduceCtorEq, eqFcc, m1e0, m1e1, m1l0, m1g0, m2l0, m2g0, Int32.reduceLT, Int32.reduceLE, Int32.reduceAdd, Int32.reduceSub, Int32.reduceMul, eq_self, Bool.false_eq_true]
        refine ih _ ?_
        rw [show gob o T.1 (k + 1) = if T.1 k = true then gob o T.1 k ||| (1 <<< o k) else gob o T.1 k from rfl, if_pos hg]
        exact (bt_or (gob o T.1 k) (gob_p hw k (by omega)).1 (o k) (by omega)).1.1
    · intro fu s hs
      rw [e_X3_goingOnes_4]
      simp (disch := omega) only [↓reduceIte, ic_t, ic_f, not_true_eq_false, not_false_eq_true, ↓lt_v, rdR, rdE, rdS, leT, leTc, leTd, leF, leFc, leFd, ltT, ltTc, ltTd, ltF, ltFc, ltFd, eqT, eqTc, eqTd, eqF, eqFc, eqFd, m1T, m1F, m1T', m1F', inb_nI, ix_nI, inb_c, ix_c, nI_1, nI_pred, nI_m1, add_nIc, add_cnI, bd_v, reduceCtorEq, eqFcc, m1e0, m1e1, m1l0, m1g0, m2l0, m2g0, Int32.reduceLT, Int32.reduceLE, Int32.reduceAdd, Int32.reduceSub, Int32.reduceMul, eq_self, Bool.false_eq_true, c1, hs]
      exact ok_some rfl
  obtain ⟨q, h1, h2⟩ := this
  rw [h1, h2]
