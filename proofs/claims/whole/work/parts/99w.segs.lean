/-! PURE: what a piece of a rule's code does -/
def opv (s : Nat) (a b : Int32) : Int32 := if s = 42 then a * b else if s = 43 then a + b else if s = 45 then a - b else if s = 47 then (if b = 0 then 0 else a / b) else if s = 60 then (if b ≤ a then 0 else 1) else if s = 62 then (if a ≤ b then 0 else 1) else (if a = b then 1 else 0)
def isOp (s : Nat) : Prop := s = 42 ∨ s = 43 ∨ s = 45 ∨ s = 47 ∨ s = 60 ∨ s = 61 ∨ s = 62
/-- the class's code from i to j pushes V -/
def CSeg (a0 : Nat) (c : Nat → Int32) (i j : Nat) (V : (Nat → Int32) → Int32) : Prop := i < j ∧ ∀ (M : Mem) (t fu len : Nat) (Q : Int32 × Mem → Prop), t ≤ i → j ≤ len → len ≤ 40 → M.1 a0 1 = nI len → (∀ k, i ≤ k → k < j → M.1 (a0 + 1) k = c k) → (∀ M' : Mem, M'.1 (a0 + 3) t = V (M.1 (a0 + 2)) → (∀ k, k < t → M'.1 (a0 + 3) k = M.1 (a0 + 3) k) → Fr (fun a => a = a0 + 3) M M' → Ok (fX6_feet_4 fu a0 (nI (t + 1)) (nI j) M') Q) → Ok (fX6_feet_4 (fu + (j - i)) a0 (nI t) (nI i) M) Q
theorem cseg_congr {a0 i j : Nat} {c c' : Nat → Int32} {V : (Nat → Int32) → Int32} (h : CSeg a0 c i j V) (e : ∀ k, i ≤ k → k < j → c' k = c k) : CSeg a0 c' i j V :=
  ⟨h.1, fun M t fu len Q h1 h2 h3 h4 h5 k => h.2 M t fu len Q h1 h2 h3 h4 (fun k k1 k2 => by rw [h5 k k1 k2, e k k1 k2]) k⟩
theorem cseg_num {a0 i x : Nat} {c : Nat → Int32} (hx : x < 1000) (hc : c i = nI x) : CSeg a0 c i (i + 1) (fun _ => nI x) := by
  refine ⟨by omega, fun M t fu len Q h1 h2 h3 h4 h5 kk => ?_⟩
  have e := h5 i (Nat.le_refl _) (by omega)
  rw [hc] at e
  have n1 : (nI x ≤ -8) = False := eq_false (fun q => by
    have := (Int32.le_iff_toInt_le).1 q
    rw [nI_toInt (by omega)] at this
    have e8 : (-8 : Int32).toInt = -8 := by decide
    omega)
  rw [show fu + (i + 1 - i) = fu + 1 by omega, e_X6_feet_4]
  simp (disch := omega) only [↓reduceIte, ic_t, ic_f, not_true_eq_false, not_false_eq_true, ↓lt_v, rdR, rdE, rdS, leT, leTc, leTd, leF, leFc, leFd, ltT, ltTc, ltTd, ltF, ltFc, ltFd, eqT, eqTc, eqTd, eqF, eqFc, eqFd, m1T, m1F, m1T', m1F', inb_nI, ix_nI, inb_c, ix_c, nI_1, nI_pred, nI_m1, add_nIc, add_cnI, bd_v, reduceCtorEq, eqFcc, m1e0, m1e1, m1l0, m1g0, m2l0, m2g0, Int32.reduceLT, Int32.reduceLE, Int32.reduceAdd, Int32.reduceSub, Int32.reduceMul, eq_self, Bool.false_eq_true, h4, e, n1]
  refine kk _ (by simp (disch := omega) only [↓reduceIte, ic_t, ic_f, not_true_eq_false, not_false_eq_true, ↓lt_v, rdR, rdE, rdS, leT, leTc, leTd, leF, leFc, leFd, ltT, ltTc, ltTd, ltF, ltFc, ltFd, eqT, eqTc, eqTd, eqF, eqFc, eqFd, m1T, m1F, m1T', m1F', inb_nI, ix_nI, inb_c, ix_c, nI_1, nI_pred, nI_m1, add_nIc, add_cnI, bd_v, reduceCtorEq, eqFcc, m1e0, m1e1, m1l0, m1g0, m2l0, m2g0, Int32.reduceLT, Int32.reduceLE, Int32.reduceAdd, Int32.reduceSub, Int32.reduceMul, eq_self, Bool.false_eq_true]) (fun k hk => by simp (disch := omega) only [↓reduceIte, ic_t, ic_f, not_true_eq_false, not_false_eq_true, ↓lt_v, rdR, rdE, rdS, leT, leTc, leTd, leF, leFc, leFd, ltT, ltTc, ltTd, ltF, ltFc, ltFd, eqT, eqTc, eqTd, eqF, eqFc, eqFd, m1T, m1F, m1T', m1F', inb_nI, ix_nI, inb_c, ix_c, nI_1, nI_pred, nI_m1, add_nIc, add_cnI, bd_v, reduceCtorEq, eqFcc, m1e0, m1e1, m1l0, m1g0, m2l0, m2g0, Int32.reduceLT, Int32.reduceLE, Int32.reduceAdd, Int32.reduceSub, Int32.reduceMul, eq_self, Bool.false_eq_true]) (fr_sI rfl)
theorem thg_f : ∀ k, k < 7 → ((-1 - nI k : Int32) ≤ -8) = False ∧ ((-1 - nI k : Int32) < 0) = True ∧ (-1 - (-1 - nI k) : Int32) = nI k := by
  intro k hk
  have h : ∀ k, k < 7 → ¬ ((-1 - nI k : Int32) ≤ -8) ∧ ((-1 - nI k : Int32) < 0) ∧ (-1 - (-1 - nI k) : Int32) = nI k := by decide +kernel
  exact ⟨eq_false (h k hk).1, eq_true (h k hk).2.1, (h k hk).2.2⟩
theorem cseg_thing {a0 i x : Nat} {c : Nat → Int32} (hx : x < 7) (hc : c i = -1 - nI x) : CSeg a0 c i (i + 1) (fun th => th x) := by
  refine ⟨by omega, fun M t fu len Q h1 h2 h3 h4 h5 kk => ?_⟩
  have e := h5 i (Nat.le_refl _) (by omega)
  rw [hc] at e
  obtain ⟨n1, n2, n3⟩ := thg_f x hx
  rw [show fu + (i + 1 - i) = fu + 1 by omega, e_X6_feet_4]
  simp (disch := omega) only [↓reduceIte, ic_t, ic_f, not_true_eq_false, not_false_eq_true, ↓lt_v, rdR, rdE, rdS, leT, leTc, leTd, leF, leFc, leFd, ltT, ltTc, ltTd, ltF, ltFc, ltFd, eqT, eqTc, eqTd, eqF, eqFc, eqFd, m1T, m1F, m1T', m1F', inb_nI, ix_nI, inb_c, ix_c, nI_1, nI_pred, nI_m1, add_nIc, add_cnI, bd_v, reduceCtorEq, eqFcc, m1e0, m1e1, m1l0, m1g0, m2l0, m2g0, Int32.reduceLT, Int32.reduceLE, Int32.reduceAdd, Int32.reduceSub, Int32.reduceMul, eq_self, Bool.false_eq_true, h4, e, n1, n2, n3]
  refine kk _ (by simp (disch := omega) only [↓reduceIte, ic_t, ic_f, not_true_eq_false, not_false_eq_true, ↓lt_v, rdR, rdE, rdS, leT, leTc, leTd, leF, leFc, leFd, ltT, ltTc, ltTd, ltF, ltFc, ltFd, eqT, eqTc, eqTd, eqF, eqFc, eqFd, m1T, m1F, m1T', m1F', inb_nI, ix_nI, inb_c, ix_c, nI_1, nI_pred, nI_m1, add_nIc, add_cnI, bd_v, reduceCtorEq, eqFcc, m1e0, m1e1, m1l0, m1g0, m2l0, m2g0, Int32.reduceLT, Int32.reduceLE, Int32.reduceAdd, Int32.reduceSub, Int32.reduceMul, eq_self, Bool.false_eq_true]) (fun k hk => by simp (disch := omega) only [↓reduceIte, ic_t, ic_f, not_true_eq_false, not_false_eq_true, ↓lt_v, rdR, rdE, rdS, leT, leTc, leTd, leF, leFc, leFd, ltT, ltTc, ltTd, ltF, ltFc, ltFd, eqT, eqTc, eqTd, eqF, eqFc, eqFd, m1T, m1F, m1T', m1F', inb_nI, ix_nI, inb_c, ix_c, nI_1, nI_pred, nI_m1, add_nIc, add_cnI, bd_v, reduceCtorEq, eqFcc, m1e0, m1e1, m1l0, m1g0, m2l0, m2g0, Int32.reduceLT, Int32.reduceLE, Int32.reduceAdd, Int32.reduceSub, Int32.reduceMul, eq_self, Bool.false_eq_true]) (fr_sI rfl)
theorem cseg_neg {a0 i j : Nat} {c : Nat → Int32} {V : (Nat → Int32) → Int32} (h : CSeg a0 c i j V) (hc : c j = -8) : CSeg a0 c i (j + 1) (fun th => -(V th)) := by
  have hij := h.1
  refine ⟨by omega, fun M t fu len Q h1 h2 h3 h4 h5 kk => ?_⟩
  rw [show fu + (j + 1 - i) = (fu + 1) + (j - i) by omega]
  refine h.2 M t (fu + 1) len Q h1 (by omega) h3 h4 (fun k k1 k2 => h5 k k1 (by omega)) (fun M1 m1 m2 m3 => ?_)
  have e : M1.1 (a0 + 1) j = -8 := by rw [m3.1 (a0 + 1) (by omega), h5 j (by omega) (by omega)]; exact hc
  have e4 : M1.1 a0 1 = nI len := by rw [m3.1 a0 (by omega)]; exact h4
  have n1 : ((-8 : Int32) ≤ -8) = True := by decide
  have em : nI (t + 1) - 1 = nI t := nI_pred t
  rw [e_X6_feet_4]
  simp (disch := omega) only [↓reduceIte, ic_t, ic_f, not_true_eq_false, not_false_eq_true, ↓lt_v, rdR, rdE, rdS, leT, leTc, leTd, leF, leFc, leFd, ltT, ltTc, ltTd, ltF, ltFc, ltFd, eqT, eqTc, eqTd, eqF, eqFc, eqFd, m1T, m1F, m1T', m1F', inb_nI, ix_nI, inb_c, ix_c, nI_1, nI_pred, nI_m1, add_nIc, add_cnI, bd_v, reduceCtorEq, eqFcc, m1e0, m1e1, m1l0, m1g0, m2l0, m2g0, Int32.reduceLT, Int32.reduceLE, Int32.reduceAdd, Int32.reduceSub, Int32.reduceMul, eq_self, Bool.false_eq_true, e4, e, n1, em, m1]
  refine kk _ (by simp (disch := omega) only [↓reduceIte, ic_t, ic_f, not_true_eq_false, not_false_eq_true, ↓lt_v, rdR, rdE, rdS, leT, leTc, leTd, leF, leFc, leFd, ltT, ltTc, ltTd, ltF, ltFc, ltFd, eqT, eqTc, eqTd, eqF, eqFc, eqFd, m1T, m1F, m1T', m1F', inb_nI, ix_nI, inb_c, ix_c, nI_1, nI_pred, nI_m1, add_nIc, add_cnI, bd_v, reduceCtorEq, eqFcc, m1e0, m1e1, m1l0, m1g0, m2l0, m2g0, Int32.reduceLT, Int32.reduceLE, Int32.reduceAdd, Int32.reduceSub, Int32.reduceMul, eq_self, Bool.false_eq_true]) (fun k hk => by simp (disch := omega) only [↓reduceIte, ic_t, ic_f, not_true_eq_false, not_false_eq_true, ↓lt_v, rdR, rdE, rdS, leT, leTc, leTd, leF, leFc, leFd, ltT, ltTc, ltTd, ltF, ltFc, ltFd, eqT, eqTc, eqTd, eqF, eqFc, eqFd, m1T, m1F, m1T', m1F', inb_nI, ix_nI, inb_c, ix_c, nI_1, nI_pred, nI_m1, add_nIc, add_cnI, bd_v, reduceCtorEq, eqFcc, m1e0, m1e1, m1l0, m1g0, m2l0, m2g0, Int32.reduceLT, Int32.reduceLE, Int32.reduceAdd, Int32.reduceSub, Int32.reduceMul, eq_self, Bool.false_eq_true]; exact m2 k hk) (fr_trans m3 (fr_sI rfl))
theorem op_f : ∀ s, isOp s → ((-(nI s) : Int32) ≤ -8) = True ∧ ((-(nI s) : Int32) = -8) = False ∧ (-(-(nI s)) : Int32) = nI s ∧ s < 100 := by
  intro s hs
  rcases hs with h | h | h | h | h | h | h <;> subst h <;> decide
theorem c_joined {M : Mem} {s : Nat} {a b : Int32} (hs : isOp s) : fX6_joined (nI s) a b M = some (opv s a b, M) := by
  rw [e_X6_joined]
  unfold opv
  rcases hs with h | h | h | h | h | h | h <;> subst h
  · simp (disch := omega) only [↓reduceIte, ic_t, ic_f, not_true_eq_false, not_false_eq_true, ↓lt_v, leT, leTc, leTd, leF, leFc, leFd, ltT, ltTc, ltTd, ltF, ltFc, ltFd, eqT, eqTc, eqTd, eqF, eqFc, eqFd, m1T, m1F, m1T', m1F', inb_nI, ix_nI, inb_c, ix_c, nI_1, nI_pred, nI_m1, add_nIc, add_cnI, bd_v, reduceCtorEq, eqFcc, m1e0, m1e1, m1l0, m1g0, m2l0, m2g0, Int32.reduceLT, Int32.reduceLE, Int32.reduceAdd, Int32.reduceSub, Int32.reduceMul, eq_self, Bool.false_eq_true]
  · simp (disch := omega) only [↓reduceIte, ic_t, ic_f, not_true_eq_false, not_false_eq_true, ↓lt_v, leT, leTc, leTd, leF, leFc, leFd, ltT, ltTc, ltTd, ltF, ltFc, ltFd, eqT, eqTc, eqTd, eqF, eqFc, eqFd, m1T, m1F, m1T', m1F', inb_nI, ix_nI, inb_c, ix_c, nI_1, nI_pred, nI_m1, add_nIc, add_cnI, bd_v, reduceCtorEq, eqFcc, m1e0, m1e1, m1l0, m1g0, m2l0, m2g0, Int32.reduceLT, Int32.reduceLE, Int32.reduceAdd, Int32.reduceSub, Int32.reduceMul, eq_self, Bool.false_eq_true]
    rfl
  · simp (disch := omega) only [↓reduceIte, ic_t, ic_f, not_true_eq_false, not_false_eq_true, ↓lt_v, leT, leTc, leTd, leF, leFc, leFd, ltT, ltTc, ltTd, ltF, ltFc, ltFd, eqT, eqTc, eqTd, eqF, eqFc, eqFd, m1T, m1F, m1T', m1F', inb_nI, ix_nI, inb_c, ix_c, nI_1, nI_pred, nI_m1, add_nIc, add_cnI, bd_v, reduceCtorEq, eqFcc, m1e0, m1e1, m1l0, m1g0, m2l0, m2g0, Int32.reduceLT, Int32.reduceLE, Int32.reduceAdd, Int32.reduceSub, Int32.reduceMul, eq_self, Bool.false_eq_true]
    rfl
  · simp (disch := omega) only [↓reduceIte, ic_t, ic_f, not_true_eq_false, not_false_eq_true, ↓lt_v, leT, leTc, leTd, leF, leFc, leFd, ltT, ltTc, ltTd, ltF, ltFc, ltFd, eqT, eqTc, eqTd, eqF, eqFc, eqFd, m1T, m1F, m1T', m1F', inb_nI, ix_nI, inb_c, ix_c, nI_1, nI_pred, nI_m1, add_nIc, add_cnI, bd_v, reduceCtorEq, eqFcc, m1e0, m1e1, m1l0, m1g0, m2l0, m2g0, Int32.reduceLT, Int32.reduceLE, Int32.reduceAdd, Int32.reduceSub, Int32.reduceMul, eq_self, Bool.false_eq_true]
    by_cases c : b = 0
    · rw [ic_pos c, if_pos c]; rfl
    · rw [ic_neg c, if_neg c, ic_pos c]; rfl
  · simp (disch := omega) only [↓reduceIte, ic_t, ic_f, not_true_eq_false, not_false_eq_true, ↓lt_v, leT, leTc, leTd, leF, leFc, leFd, ltT, ltTc, ltTd, ltF, ltFc, ltFd, eqT, eqTc, eqTd, eqF, eqFc, eqFd, m1T, m1F, m1T', m1F', inb_nI, ix_nI, inb_c, ix_c, nI_1, nI_pred, nI_m1, add_nIc, add_cnI, bd_v, reduceCtorEq, eqFcc, m1e0, m1e1, m1l0, m1g0, m2l0, m2g0, Int32.reduceLT, Int32.reduceLE, Int32.reduceAdd, Int32.reduceSub, Int32.reduceMul, eq_self, Bool.false_eq_true]
    by_cases c : b ≤ a
    · rw [ic_pos c, if_pos c]; rfl
    · rw [ic_neg c, if_neg c]; rfl
  · simp (disch := omega) only [↓reduceIte, ic_t, ic_f, not_true_eq_false, not_false_eq_true, ↓lt_v, leT, leTc, leTd, leF, leFc, leFd, ltT, ltTc, ltTd, ltF, ltFc, ltFd, eqT, eqTc, eqTd, eqF, eqFc, eqFd, m1T, m1F, m1T', m1F', inb_nI, ix_nI, inb_c, ix_c, nI_1, nI_pred, nI_m1, add_nIc, add_cnI, bd_v, reduceCtorEq, eqFcc, m1e0, m1e1, m1l0, m1g0, m2l0, m2g0, Int32.reduceLT, Int32.reduceLE, Int32.reduceAdd, Int32.reduceSub, Int32.reduceMul, eq_self, Bool.false_eq_true]
    by_cases c : a = b
    · rw [ic_pos c, if_pos c]; rfl
    · rw [ic_neg c, if_neg c]; rfl
  · simp (disch := omega) only [↓reduceIte, ic_t, ic_f, not_true_eq_false, not_false_eq_true, ↓lt_v, leT, leTc, leTd, leF, leFc, leFd, ltT, ltTc, ltTd, ltF, ltFc, ltFd, eqT, eqTc, eqTd, eqF, eqFc, eqFd, m1T, m1F, m1T', m1F', inb_nI, ix_nI, inb_c, ix_c, nI_1, nI_pred, nI_m1, add_nIc, add_cnI, bd_v, reduceCtorEq, eqFcc, m1e0, m1e1, m1l0, m1g0, m2l0, m2g0, Int32.reduceLT, Int32.reduceLE, Int32.reduceAdd, Int32.reduceSub, Int32.reduceMul, eq_self, Bool.false_eq_true]
    by_cases c : a ≤ b
    · rw [ic_pos c, if_pos c]; rfl
    · rw [ic_neg c, if_neg c]; rfl
theorem cseg_bin {a0 i j k s : Nat} {c : Nat → Int32} {V W : (Nat → Int32) → Int32} (hs : isOp s) (h : CSeg a0 c i j V) (h' : CSeg a0 c j k W) (hc : c k = -(nI s)) : CSeg a0 c i (k + 1) (fun th => opv s (V th) (W th)) := by
  have hij := h.1
  have hjk := h'.1
  refine ⟨by omega, fun M t fu len Q h1 h2 h3 h4 h5 kk => ?_⟩
  rw [show fu + (k + 1 - i) = (fu + 1 + (k - j)) + (j - i) by omega]
  refine h.2 M t (fu + 1 + (k - j)) len Q h1 (by omega) h3 h4 (fun l k1 k2 => h5 l k1 (by omega)) (fun M1 m1 m2 m3 => ?_)
  refine h'.2 M1 (t + 1) (fu + 1) len Q (by omega) (by omega) h3 (by rw [m3.1 a0 (by omega)]; exact h4) (fun l k1 k2 => by rw [m3.1 (a0 + 1) (by omega)]; exact h5 l (by omega) (by omega)) (fun M2 n1 n2 n3 => ?_)
  have e : M2.1 (a0 + 1) k = -(nI s) := by rw [n3.1 (a0 + 1) (by omega), m3.1 (a0 + 1) (by omega), h5 k (by omega) (by omega)]; exact hc
  have e4 : M2.1 a0 1 = nI len := by rw [n3.1 a0 (by omega), m3.1 a0 (by omega)]; exact h4
  have eT : M2.1 (a0 + 3) t = V (M.1 (a0 + 2)) := by rw [n2 t (by omega)]; exact m1
  have eT1 : M2.1 (a0 + 3) (t + 1) = W (M.1 (a0 + 2)) := by rw [n1, m3.1 (a0 + 2) (by omega)]
  obtain ⟨p1, p2, p3, p4⟩ := op_f s hs
  have hj := c_joined (M := M2) (a := V (M.1 (a0 + 2))) (b := W (M.1 (a0 + 2))) hs
  have em : nI (t + 1 + 1) + (-1) = nI (t + 1) := by rw [nI_m1]; exact nI_pred (t + 1)
  have em2 : nI (t + 1) - 1 = nI t := nI_pred t
  rw [e_X6_feet_4]
  simp (disch := omega) only [↓reduceIte, ic_t, ic_f, not_true_eq_false, not_false_eq_true, ↓lt_v, rdR, rdE, rdS, leT, leTc, leTd, leF, leFc, leFd, ltT, ltTc, ltTd, ltF, ltFc, ltFd, eqT, eqTc, eqTd, eqF, eqFc, eqFd, m1T, m1F, m1T', m1F', inb_nI, ix_nI, inb_c, ix_c, nI_1, nI_pred, nI_m1, add_nIc, add_cnI, bd_v, reduceCtorEq, eqFcc, m1e0, m1e1, m1l0, m1g0, m2l0, m2g0, Int32.reduceLT, Int32.reduceLE, Int32.reduceAdd, Int32.reduceSub, Int32.reduceMul, eq_self, Bool.false_eq_true, e4, e, p1, p2, em, em2, p3, eT, eT1, hj]
  refine kk _ (by simp (disch := omega) only [↓reduceIte, ic_t, ic_f, not_true_eq_false, not_false_eq_true, ↓lt_v, rdR, rdE, rdS, leT, leTc, leTd, leF, leFc, leFd, ltT, ltTc, ltTd, ltF, ltFc, ltFd, eqT, eqTc, eqTd, eqF, eqFc, eqFd, m1T, m1F, m1T', m1F', inb_nI, ix_nI, inb_c, ix_c, nI_1, nI_pred, nI_m1, add_nIc, add_cnI, bd_v, reduceCtorEq, eqFcc, m1e0, m1e1, m1l0, m1g0, m2l0, m2g0, Int32.reduceLT, Int32.reduceLE, Int32.reduceAdd, Int32.reduceSub, Int32.reduceMul, eq_self, Bool.false_eq_true]) (fun l hl => by simp (disch := omega) only [↓reduceIte, ic_t, ic_f, not_true_eq_false, not_false_eq_true, ↓lt_v, rdR, rdE, rdS, leT, leTc, leTd, leF, leFc, leFd, ltT, ltTc, ltTd, ltF, ltFc, ltFd, eqT, eqTc, eqTd, eqF, eqFc, eqFd, m1T, m1F, m1T', m1F', inb_nI, ix_nI, inb_c, ix_c, nI_1, nI_pred, nI_m1, add_nIc, add_cnI, bd_v, reduceCtorEq, eqFcc, m1e0, m1e1, m1l0, m1g0, m2l0, m2g0, Int32.reduceLT, Int32.reduceLE, Int32.reduceAdd, Int32.reduceSub, Int32.reduceMul, eq_self, Bool.false_eq_true]; rw [n2 l (by omega)]; exact m2 l hl) (fr_trans m3 (fr_trans n3 (fr_sI rfl)))
/-- a whole code: what the class's feet are -/
theorem cseg_feet {a0 len : Nat} {M : Mem} {V : (Nat → Int32) → Int32} (hl : len ≤ 40) (h1 : M.1 a0 1 = nI len) (h : CSeg a0 (M.1 (a0 + 1)) 0 len V) : ∀ M' : Mem, M'.1 a0 = M.1 a0 → M'.1 (a0 + 1) = M.1 (a0 + 1) → Ok (fX6_feet a0 M') (fun q => q.1 = cl20 (V (M'.1 (a0 + 2))) ∧ Fr (fun a => a = a0 + 3) M' q.2) := by
  intro M' e1 e2
  have hFU : 2000 < FU := FU_big
  rw [e_X6_feet, show FU = (FU - len) + (len - 0) by omega]
  refine h.2 M' 0 (FU - len) len _ (Nat.le_refl _) (Nat.le_refl _) hl (by rw [e1]; exact h1) (fun k _ _ => by rw [e2]) (fun M2 m1 m2 m3 => ?_)
  have e4 : M2.1 a0 1 = nI len := by rw [m3.1 a0 (by omega), e1]; exact h1
  rw [show FU - len = (FU - (len + 1)) + 1 by omega, e_X6_feet_4]
  simp (disch := omega) only [↓reduceIte, ic_t, ic_f, not_true_eq_false, not_false_eq_true, ↓lt_v, rdR, rdE, rdS, leT, leTc, leTd, leF, leFc, leFd, ltT, ltTc, ltTd, ltF, ltFc, ltFd, eqT, eqTc, eqTd, eqF, eqFc, eqFd, m1T, m1F, m1T', m1F', inb_nI, ix_nI, inb_c, ix_c, nI_1, nI_pred, nI_m1, add_nIc, add_cnI, bd_v, reduceCtorEq, eqFcc, m1e0, m1e1, m1l0, m1g0, m2l0, m2g0, Int32.reduceLT, Int32.reduceLE, Int32.reduceAdd, Int32.reduceSub, Int32.reduceMul, eq_self, Bool.false_eq_true, e4, m1]
  exact ok_some ⟨rfl, m3⟩
