/-! PURE: the reference reads a text -/
def AtR (a m : Nat) (f : Nat → Nat) (M : Mem) : Prop := M.1 169 9 = nI a ∧ M.1 169 10 = nI m ∧ m ≤ 80 ∧ a ≤ m ∧ ∀ i, i < m → f i < 256 ∧ M.1 173 i = nI (f i)
theorem atR_set {a b m : Nat} {f : Nat → Nat} {M : Mem} (h : AtR a m f M) (hb : b ≤ m) : AtR b m f (sI M 169 9 (nI b)) := ⟨rdE rfl rfl, by rw [rdS (by omega)]; exact h.2.1, h.2.2.1, hb, fun i hi => by rw [rdR (by omega)]; exact h.2.2.2.2 i hi⟩
theorem atR_fr {a m : Nat} {f : Nat → Nat} {M M' : Mem} (h : AtR a m f M) (e1 : M'.1 169 9 = M.1 169 9) (e2 : M'.1 169 10 = M.1 169 10) (e3 : M'.1 173 = M.1 173) : AtR a m f M' := by unfold AtR; rw [e1, e2, e3]; exact h
theorem r_takes {M : Mem} {a m c : Nat} {f : Nat → Nat} (h : AtR a m f M) (hc : c < 256) : fX10_takes (nI c) M = some (bI (decide (a < m ∧ f a = c)), sI M 169 9 (nI (a + (if a < m ∧ f a = c then 1 else 0)))) := by
  obtain ⟨h1, h2, h3, h4, h5⟩ := h
  have f0 : ∀ N : Mem, fX10_flag 0 N = some (0, N) := fun N => r_flagI (Or.inl rfl)
  have f1 : ∀ N : Mem, fX10_flag 1 N = some (1, N) := fun N => r_flagI (Or.inr rfl)
  have no : fX10_takes_28 M = some (0, sI M 169 9 (nI a)) := by
    rw [e_X10_takes_28, e_X10_takes_29]
    simp (disch := omega) only [↓reduceIte, ic_t, ic_f, not_true_eq_false, not_false_eq_true, ↓lt_v, rdR, rdE, rdS, leT, leTc, leTd, leF, leFc, leFd, ltT, ltTc, ltTd, ltF, ltFc, ltFd, eqT, eqTc, eqTd, eqF, eqFc, eqFd, m1T, m1F, m1T', m1F', inb_nI, ix_nI, inb_c, ix_c, nI_1, nI_pred, nI_m1, add_nIc, add_cnI, bd_v, reduceCtorEq, eqFcc, m1e0, m1e1, m1l0, m1g0, m2l0, m2g0, Int32.reduceLT, Int32.reduceLE, Int32.reduceAdd, Int32.reduceSub, Int32.reduceMul, eq_self, Bool.false_eq_true, f0, h1]
    simp [ic]
  rw [e_X10_takes]
  by_cases c1 : a < m
  · obtain ⟨g1, g2⟩ := h5 a c1
    by_cases c2 : f a = c
    · simp (disch := omega) only [↓reduceIte, ic_t, ic_f, not_true_eq_false, not_false_eq_true, ↓lt_v, rdR, rdE, rdS, leT, leTc, leTd, leF, leFc, leFd, ltT, ltTc, ltTd, ltF, ltFc, ltFd, eqT, eqTc, eqTd, eqF, eqFc, eqFd, m1T, m1F, m1T', m1F', inb_nI, ix_nI, inb_c, ix_c, nI_1, nI_pred, nI_m1, add_nIc, add_cnI, bd_v, reduceCtorEq, eqFcc, m1e0, m1e1, m1l0, m1g0, m2l0, m2g0, Int32.reduceLT, Int32.reduceLE, Int32.reduceAdd, Int32.reduceSub, Int32.reduceMul, eq_self, Bool.false_eq_true, h1, h2, g2]
      rw [e_X10_takes_29, decide_eq_true ⟨c1, c2⟩, if_pos ⟨c1, c2⟩]
      simp (disch := omega) only [↓reduceIte, ic_t, ic_f, not_true_eq_false, not_false_eq_true, ↓lt_v, rdR, rdE, rdS, leT, leTc, leTd, leF, leFc, leFd, ltT, ltTc, ltTd, ltF, ltFc, ltFd, eqT, eqTc, eqTd, eqF, eqFc, eqFd, m1T, m1F, m1T', m1F', inb_nI, ix_nI, inb_c, ix_c, nI_1, nI_pred, nI_m1, add_nIc, add_cnI, bd_v, reduceCtorEq, eqFcc, m1e0, m1e1, m1l0, m1g0, m2l0, m2g0, Int32.reduceLT, Int32.reduceLE, Int32.reduceAdd, Int32.reduceSub, Int32.reduceMul, eq_self, Bool.false_eq_true, f1, h1]
      simp [ic, bI]
    · simp (disch := omega) only [↓reduceIte, ic_t, ic_f, not_true_eq_false, not_false_eq_true, ↓lt_v, rdR, rdE, rdS, leT, leTc, leTd, leF, leFc, leFd, ltT, ltTc, ltTd, ltF, ltFc, ltFd, eqT, eqTc, eqTd, eqF, eqFc, eqFd, m1T, m1F, m1T', m1F', inb_nI, ix_nI, inb_c, ix_c, nI_1, nI_pred, nI_m1, add_nIc, add_cnI, bd_v, reduceCtorEq, eqFcc, m1e0, m1e1, m1l0, m1g0, m2l0, m2g0, Int32.reduceLT, Int32.reduceLE, Int32.reduceAdd, Int32.reduceSub, Int32.reduceMul, eq_self, Bool.false_eq_true, h1, h2, g2]
      rw [no, decide_eq_false (fun q => c2 q.2), if_neg (fun q => c2 q.2)]
      rfl
  · simp (disch := omega) only [↓reduceIte, ic_t, ic_f, not_true_eq_false, not_false_eq_true, ↓lt_v, rdR, rdE, rdS, leT, leTc, leTd, leF, leFc, leFd, ltT, ltTc, ltTd, ltF, ltFc, ltFd, eqT, eqTc, eqTd, eqF, eqFc, eqFd, m1T, m1F, m1T', m1F', inb_nI, ix_nI, inb_c, ix_c, nI_1, nI_pred, nI_m1, add_nIc, add_cnI, bd_v, reduceCtorEq, eqFcc, m1e0, m1e1, m1l0, m1g0, m2l0, m2g0, Int32.reduceLT, Int32.reduceLE, Int32.reduceAdd, Int32.reduceSub, Int32.reduceMul, eq_self, Bool.false_eq_true, h1, h2]
    rw [no, decide_eq_false (fun q => c1 q.1), if_neg (fun q => c1 q.1)]
    rfl
theorem r_isDigit {M : Mem} {a m : Nat} {f : Nat → Nat} (h : AtR a m f M) : fX10_isDigit M = some (bI (decide (a < m) && isD (f a)), M) := by
  obtain ⟨h1, h2, h3, h4, h5⟩ := h
  rw [e_X10_isDigit]
  by_cases c1 : a < m
  · obtain ⟨g1, g2⟩ := h5 a c1
    have hi : fX10_in (nI (f a)).toInt64 48 57 M = some (if isD (f a) = true then 1 else 0, M) := by
      rw [r_inI (lo := 48) (hi := 57) (by decide) (by decide), nI_toInt (by omega)]
      unfold isD
      by_cases d : 48 ≤ f a ∧ f a ≤ 57
      · rw [if_pos (by omega), if_pos (decide_eq_true d)]
      · rw [if_neg (by omega), if_neg (fun q => d (of_decide_eq_true q))]
    simp (disch := omega) only [↓reduceIte, ic_t, ic_f, not_true_eq_false, not_false_eq_true, ↓lt_v, rdR, rdE, rdS, leT, leTc, leTd, leF, leFc, leFd, ltT, ltTc, ltTd, ltF, ltFc, ltFd, eqT, eqTc, eqTd, eqF, eqFc, eqFd, m1T, m1F, m1T', m1F', inb_nI, ix_nI, inb_c, ix_c, nI_1, nI_pred, nI_m1, add_nIc, add_cnI, bd_v, reduceCtorEq, eqFcc, m1e0, m1e1, m1l0, m1g0, m2l0, m2g0, Int32.reduceLT, Int32.reduceLE, Int32.reduceAdd, Int32.reduceSub, Int32.reduceMul, eq_self, Bool.false_eq_true, h1, h2, g2, hi]
    rw [decide_eq_true c1]
    cases isD (f a)
    · simp (disch := omega) only [↓reduceIte, ic_t, ic_f, not_true_eq_false, not_false_eq_true, ↓lt_v, rdR, rdE, rdS, leT, leTc, leTd, leF, leFc, leFd, ltT, ltTc, ltTd, ltF, ltFc, ltFd, eqT, eqTc, eqTd, eqF, eqFc, eqFd, m1T, m1F, m1T', m1F', inb_nI, ix_nI, inb_c, ix_c, nI_1, nI_pred, nI_m1, add_nIc, add_cnI, bd_v, reduceCtorEq, eqFcc, m1e0, m1e1, m1l0, m1g0, m2l0, m2g0, Int32.reduceLT, Int32.reduceLE, Int32.reduceAdd, Int32.reduceSub, Int32.reduceMul, eq_self, Bool.false_eq_true]; rfl
    · simp (disch := omega) only [↓reduceIte, ic_t, ic_f, not_true_eq_false, not_false_eq_true, ↓lt_v, rdR, rdE, rdS, leT, leTc, leTd, leF, leFc, leFd, ltT, ltTc, ltTd, ltF, ltFc, ltFd, eqT, eqTc, eqTd, eqF, eqFc, eqFd, m1T, m1F, m1T', m1F', inb_nI, ix_nI, inb_c, ix_c, nI_1, nI_pred, nI_m1, add_nIc, add_cnI, bd_v, reduceCtorEq, eqFcc, m1e0, m1e1, m1l0, m1g0, m2l0, m2g0, Int32.reduceLT, Int32.reduceLE, Int32.reduceAdd, Int32.reduceSub, Int32.reduceMul, eq_self, Bool.false_eq_true]; rfl
  · simp (disch := omega) only [↓reduceIte, ic_t, ic_f, not_true_eq_false, not_false_eq_true, ↓lt_v, rdR, rdE, rdS, leT, leTc, leTd, leF, leFc, leFd, ltT, ltTc, ltTd, ltF, ltFc, ltFd, eqT, eqTc, eqTd, eqF, eqFc, eqFd, m1T, m1F, m1T', m1F', inb_nI, ix_nI, inb_c, ix_c, nI_1, nI_pred, nI_m1, add_nIc, add_cnI, bd_v, reduceCtorEq, eqFcc, m1e0, m1e1, m1l0, m1g0, m2l0, m2g0, Int32.reduceLT, Int32.reduceLE, Int32.reduceAdd, Int32.reduceSub, Int32.reduceMul, eq_self, Bool.false_eq_true, h1, h2]
    rw [decide_eq_false c1]
    rfl
theorem r_number1 {M : Mem} {a m : Nat} {f : Nat → Nat} (h : AtR a m f M) : fX10_number 1 M = if a < m ∧ isD (f a) = true then some (nI (f a - 48), sI M 169 9 (nI (a + 1))) else some (-1, M) := by
  have hd := r_isDigit h
  have h' := h
  obtain ⟨h1, h2, h3, h4, h5⟩ := h
  rw [e_X10_number, hd]
  by_cases c : a < m ∧ isD (f a) = true
  · obtain ⟨g1, g2⟩ := h5 a c.1
    have hdg := isD_i c.2
    rw [if_pos c]
    rw [decide_eq_true c.1, c.2] at hd ⊢
    have b1 : bI (true && true) = 1 := rfl
    have hFU : 2000 < FU := FU_big
    obtain ⟨fu, hfu⟩ : ∃ fu, FU = fu + 1 + 1 := ⟨FU - 2, by omega⟩
    rw [b1] at hd ⊢
    simp (disch := omega) only [↓reduceIte, ic_t, ic_f, not_true_eq_false, not_false_eq_true, ↓lt_v, rdR, rdE, rdS, leT, leTc, leTd, leF, leFc, leFd, ltT, ltTc, ltTd, ltF, ltFc, ltFd, eqT, eqTc, eqTd, eqF, eqFc, eqFd, m1T, m1F, m1T', m1F', inb_nI, ix_nI, inb_c, ix_c, nI_1, nI_pred, nI_m1, add_nIc, add_cnI, bd_v, reduceCtorEq, eqFcc, m1e0, m1e1, m1l0, m1g0, m2l0, m2g0, Int32.reduceLT, Int32.reduceLE, Int32.reduceAdd, Int32.reduceSub, Int32.reduceMul, eq_self, Bool.false_eq_true]
    rw [hfu, e_X10_number_13]
    simp (disch := omega) only [↓reduceIte, ic_t, ic_f, not_true_eq_false, not_false_eq_true, ↓lt_v, rdR, rdE, rdS, leT, leTc, leTd, leF, leFc, leFd, ltT, ltTc, ltTd, ltF, ltFc, ltFd, eqT, eqTc, eqTd, eqF, eqFc, eqFd, m1T, m1F, m1T', m1F', inb_nI, ix_nI, inb_c, ix_c, nI_1, nI_pred, nI_m1, add_nIc, add_cnI, bd_v, reduceCtorEq, eqFcc, m1e0, m1e1, m1l0, m1g0, m2l0, m2g0, Int32.reduceLT, Int32.reduceLE, Int32.reduceAdd, Int32.reduceSub, Int32.reduceMul, eq_self, Bool.false_eq_true, hd, h1, g2]
    rw [e_X10_number_13]
    simp (disch := omega) only [↓reduceIte, ic_t, ic_f, not_true_eq_false, not_false_eq_true, ↓lt_v, rdR, rdE, rdS, leT, leTc, leTd, leF, leFc, leFd, ltT, ltTc, ltTd, ltF, ltFc, ltFd, eqT, eqTc, eqTd, eqF, eqFc, eqFd, m1T, m1F, m1T', m1F', inb_nI, ix_nI, inb_c, ix_c, nI_1, nI_pred, nI_m1, add_nIc, add_cnI, bd_v, reduceCtorEq, eqFcc, m1e0, m1e1, m1l0, m1g0, m2l0, m2g0, Int32.reduceLT, Int32.reduceLE, Int32.reduceAdd, Int32.reduceSub, Int32.reduceMul, eq_self, Bool.false_eq_true]
    rw [Nat.zero_add, sub_nIc hdg.1]
  · rw [if_neg c]
    have : (decide (a < m) && isD (f a)) = false := by
      cases hh : (decide (a < m) && isD (f a))
      · rfl
      · simp only [Bool.and_eq_true, decide_eq_true_eq] at hh
        exact absurd hh c
    rw [this]
    have b0 : bI false = 0 := rfl
    simp (disch := omega) only [↓reduceIte, ic_t, ic_f, not_true_eq_false, not_false_eq_true, ↓lt_v, rdR, rdE, rdS, leT, leTc, leTd, leF, leFc, leFd, ltT, ltTc, ltTd, ltF, ltFc, ltFd, eqT, eqTc, eqTd, eqF, eqFc, eqFd, m1T, m1F, m1T', m1F', inb_nI, ix_nI, inb_c, ix_c, nI_1, nI_pred, nI_m1, add_nIc, add_cnI, bd_v, reduceCtorEq, eqFcc, m1e0, m1e1, m1l0, m1g0, m2l0, m2g0, Int32.reduceLT, Int32.reduceLE, Int32.reduceAdd, Int32.reduceSub, Int32.reduceMul, eq_self, Bool.false_eq_true, b0]
theorem r_digitIn {M : Mem} {a m lo hi : Nat} {f : Nat → Nat} (h : AtR a m f M) (hlo : lo ≤ 9) (hhi : hi ≤ 9) : fX10_digitIn (nI lo) (nI hi) M = if a < m ∧ 48 + lo ≤ f a ∧ f a ≤ 48 + hi then some (nI (f a - 48), sI M 169 9 (nI (a + 1))) else some (-1, M) := by
  obtain ⟨h1, h2, h3, h4, h5⟩ := h
  rw [e_X10_digitIn]
  by_cases c1 : a < m
  · obtain ⟨g1, g2⟩ := h5 a c1
    have hs : (nI (f a) - 48).toInt = (f a : Int) - 48 := by
      rw [show (48 : Int32) = nI 48 from rfl]
      exact pk_sub_toInt (by omega) (by omega)
    have hin : fX10_in ((nI (f a) - 48).toInt64) ((nI lo).toInt64) ((nI hi).toInt64) M = some (if 48 + lo ≤ f a ∧ f a ≤ 48 + hi then 1 else 0, M) := by
      rw [r_inI (lo := (lo : Int)) (hi := (hi : Int)) (by rw [Int32.toInt_toInt64, nI_toInt (by omega)]) (by rw [Int32.toInt_toInt64, nI_toInt (by omega)]), hs]
      by_cases d : 48 + lo ≤ f a ∧ f a ≤ 48 + hi
      · rw [if_pos d, if_pos (by omega)]
      · rw [if_neg d, if_neg (by omega)]
    by_cases d : 48 + lo ≤ f a ∧ f a ≤ 48 + hi
    · rw [if_pos d] at hin
      rw [if_pos ⟨c1, d⟩]
      simp (disch := omega) only [↓reduceIte, ic_t, ic_f, not_true_eq_false, not_false_eq_true, ↓lt_v, rdR, rdE, rdS, leT, leTc, leTd, leF, leFc, leFd, ltT, ltTc, ltTd, ltF, ltFc, ltFd, eqT, eqTc, eqTd, eqF, eqFc, eqFd, m1T, m1F, m1T', m1F', inb_nI, ix_nI, inb_c, ix_c, nI_1, nI_pred, nI_m1, add_nIc, add_cnI, bd_v, reduceCtorEq, eqFcc, m1e0, m1e1, m1l0, m1g0, m2l0, m2g0, Int32.reduceLT, Int32.reduceLE, Int32.reduceAdd, Int32.reduceSub, Int32.reduceMul, eq_self, Bool.false_eq_true, h1, h2, g2, hin]
      rw [sub_nIc (by omega)]
    · rw [if_neg d] at hin
      rw [if_neg (fun q => d q.2)]
      simp (disch := omega) only [↓reduceIte, ic_t, ic_f, not_true_eq_false, not_false_eq_true, ↓lt_v, rdR, rdE, rdS, leT, leTc, leTd, leF, leFc, leFd, ltT, ltTc, ltTd, ltF, ltFc, ltFd, eqT, eqTc, eqTd, eqF, eqFc, eqFd, m1T, m1F, m1T', m1F', inb_nI, ix_nI, inb_c, ix_c, nI_1, nI_pred, nI_m1, add_nIc, add_cnI, bd_v, reduceCtorEq, eqFcc, m1e0, m1e1, m1l0, m1g0, m2l0, m2g0, Int32.reduceLT, Int32.reduceLE, Int32.reduceAdd, Int32.reduceSub, Int32.reduceMul, eq_self, Bool.false_eq_true, h1, h2, g2, hin]
  · rw [if_neg (fun q => c1 q.1)]
    simp (disch := omega) only [↓reduceIte, ic_t, ic_f, not_true_eq_false, not_false_eq_true, ↓lt_v, rdR, rdE, rdS, leT, leTc, leTd, leF, leFc, leFd, ltT, ltTc, ltTd, ltF, ltFc, ltFd, eqT, eqTc, eqTd, eqF, eqFc, eqFd, m1T, m1F, m1T', m1F', inb_nI, ix_nI, inb_c, ix_c, nI_1, nI_pred, nI_m1, add_nIc, add_cnI, bd_v, reduceCtorEq, eqFcc, m1e0, m1e1, m1l0, m1g0, m2l0, m2g0, Int32.reduceLT, Int32.reduceLE, Int32.reduceAdd, Int32.reduceSub, Int32.reduceMul, eq_self, Bool.false_eq_true, h1, h2]
theorem r_begins {M : Mem} {L most : Nat} {f : Nat → Nat} (h : TxR L f M) (hm : most ≤ 80) : Ok (fX10_begins (nI most) M) (fun q => q.1 = nI L ∧ AtR 0 (min L most) f q.2 ∧ q.2.1 169 8 = nI 0 ∧ q.2.1 169 11 = nI 0 ∧ FrR (fun _ => False) (fun i => i = 8 ∨ i = 9 ∨ i = 10 ∨ i = 11) M q.2) := by
  obtain ⟨h1, h2, h3⟩ := h
  rw [e_X10_begins]
  have e : (if nI most < nI L then nI most else nI L) = nI (min L most) := by
    by_cases c : most < L
    · rw [if_pos (nI_lt c (by omega)), show min L most = most by omega]
    · rw [if_neg (nI_nlt (by omega) (by omega)), show min L most = L by omega]
  simp only [lt_v]
  rw [h2, e]
  refine ok_some ⟨rfl, ⟨?_, rdE rfl rfl, by omega, Nat.zero_le _, fun i hi => ?_⟩, ?_, ?_, ?_⟩
  · simp (disch := omega) only [↓reduceIte, ic_t, ic_f, not_true_eq_false, not_false_eq_true, ↓lt_v, rdR, rdE, rdS, leT, leTc, leTd, leF, leFc, leFd, ltT, ltTc, ltTd, ltF, ltFc, ltFd, eqT, eqTc, eqTd, eqF, eqFc, eqFd, m1T, m1F, m1T', m1F', inb_nI, ix_nI, inb_c, ix_c, nI_1, nI_pred, nI_m1, add_nIc, add_cnI, bd_v, reduceCtorEq, eqFcc, m1e0, m1e1, m1l0, m1g0, m2l0, m2g0, Int32.reduceLT, Int32.reduceLE, Int32.reduceAdd, Int32.reduceSub, Int32.reduceMul, eq_self, Bool.false_eq_true]
  · have := h3 i (by omega)
    simp (disch := omega) only [↓reduceIte, ic_t, ic_f, not_true_eq_false, not_false_eq_true, ↓lt_v, rdR, rdE, rdS, leT, leTc, leTd, leF, leFc, leFd, ltT, ltTc, ltTd, ltF, ltFc, ltFd, eqT, eqTc, eqTd, eqF, eqFc, eqFd, m1T, m1F, m1T', m1F', inb_nI, ix_nI, inb_c, ix_c, nI_1, nI_pred, nI_m1, add_nIc, add_cnI, bd_v, reduceCtorEq, eqFcc, m1e0, m1e1, m1l0, m1g0, m2l0, m2g0, Int32.reduceLT, Int32.reduceLE, Int32.reduceAdd, Int32.reduceSub, Int32.reduceMul, eq_self, Bool.false_eq_true]
    exact this
  · simp (disch := omega) only [↓reduceIte, ic_t, ic_f, not_true_eq_false, not_false_eq_true, ↓lt_v, rdR, rdE, rdS, leT, leTc, leTd, leF, leFc, leFd, ltT, ltTc, ltTd, ltF, ltFc, ltFd, eqT, eqTc, eqTd, eqF, eqFc, eqFd, m1T, m1F, m1T', m1F', inb_nI, ix_nI, inb_c, ix_c, nI_1, nI_pred, nI_m1, add_nIc, add_cnI, bd_v, reduceCtorEq, eqFcc, m1e0, m1e1, m1l0, m1g0, m2l0, m2g0, Int32.reduceLT, Int32.reduceLE, Int32.reduceAdd, Int32.reduceSub, Int32.reduceMul, eq_self, Bool.false_eq_true]
  · simp (disch := omega) only [↓reduceIte, ic_t, ic_f, not_true_eq_false, not_false_eq_true, ↓lt_v, rdR, rdE, rdS, leT, leTc, leTd, leF, leFc, leFd, ltT, ltTc, ltTd, ltF, ltFc, ltFd, eqT, eqTc, eqTd, eqF, eqFc, eqFd, m1T, m1F, m1T', m1F', inb_nI, ix_nI, inb_c, ix_c, nI_1, nI_pred, nI_m1, add_nIc, add_cnI, bd_v, reduceCtorEq, eqFcc, m1e0, m1e1, m1l0, m1g0, m2l0, m2g0, Int32.reduceLT, Int32.reduceLE, Int32.reduceAdd, Int32.reduceSub, Int32.reduceMul, eq_self, Bool.false_eq_true]
  · repeat (first | exact frR_rfl | refine frR_trans ?_ (frR_sI (by omega) (by omega)))
theorem r_faultOf {M : Mem} {a m L most : Nat} {f : Nat → Nat} {z : Bool} (h : AtR a m f M) (hL : L ≤ 80) (hm : most ≤ 80) : fX10_faultOf (nI L) (nI most) (bI z) M = some (if most < L ∧ ((z && decide (a = m)) = true ∨ most ≤ a) then -1 - nI most else if (z && decide (a = m)) = true then 0 else -1 - nI a, M) := by
  obtain ⟨h1, h2, h3, h4, h5⟩ := h
  rw [e_X10_faultOf]
  generalize hC : (z && decide (a = m)) = C
  have nocan : ¬ C = true → fX10_faultOf_19 (nI L) (nI most) M = some (if most < L ∧ (C = true ∨ most ≤ a) then -1 - nI most else if C = true then 0 else -1 - nI a, M) := by
    intro hn
    rw [e_X10_faultOf_19, e_X10_faultOf_20, if_neg hn]
    by_cases c1 : most < L
    · by_cases c2 : most ≤ a
      · simp (disch := omega) only [↓reduceIte, ic_t, ic_f, not_true_eq_false, not_false_eq_true, ↓lt_v, rdR, rdE, rdS, leT, leTc, leTd, leF, leFc, leFd, ltT, ltTc, ltTd, ltF, ltFc, ltFd, eqT, eqTc, eqTd, eqF, eqFc, eqFd, m1T, m1F, m1T', m1F', inb_nI, ix_nI, inb_c, ix_c, nI_1, nI_pred, nI_m1, add_nIc, add_cnI, bd_v, reduceCtorEq, eqFcc, m1e0, m1e1, m1l0, m1g0, m2l0, m2g0, Int32.reduceLT, Int32.reduceLE, Int32.reduceAdd, Int32.reduceSub, Int32.reduceMul, eq_self, Bool.false_eq_true, h1]
        rw [if_pos ⟨c1, Or.inr c2⟩]
      · simp (disch := omega) only [↓reduceIte, ic_t, ic_f, not_true_eq_false, not_false_eq_true, ↓lt_v, rdR, rdE, rdS, leT, leTc, leTd, leF, leFc, leFd, ltT, ltTc, ltTd, ltF, ltFc, ltFd, eqT, eqTc, eqTd, eqF, eqFc, eqFd, m1T, m1F, m1T', m1F', inb_nI, ix_nI, inb_c, ix_c, nI_1, nI_pred, nI_m1, add_nIc, add_cnI, bd_v, reduceCtorEq, eqFcc, m1e0, m1e1, m1l0, m1g0, m2l0, m2g0, Int32.reduceLT, Int32.reduceLE, Int32.reduceAdd, Int32.reduceSub, Int32.reduceMul, eq_self, Bool.false_eq_true, h1, e_X10_faultOf_44]
        rw [if_neg (fun q => q.2.elim hn c2)]
    · simp (disch := omega) only [↓reduceIte, ic_t, ic_f, not_true_eq_false, not_false_eq_true, ↓lt_v, rdR, rdE, rdS, leT, leTc, leTd, leF, leFc, leFd, ltT, ltTc, ltTd, ltF, ltFc, ltFd, eqT, eqTc, eqTd, eqF, eqFc, eqFd, m1T, m1F, m1T', m1F', inb_nI, ix_nI, inb_c, ix_c, nI_1, nI_pred, nI_m1, add_nIc, add_cnI, bd_v, reduceCtorEq, eqFcc, m1e0, m1e1, m1l0, m1g0, m2l0, m2g0, Int32.reduceLT, Int32.reduceLE, Int32.reduceAdd, Int32.reduceSub, Int32.reduceMul, eq_self, Bool.false_eq_true, h1, e_X10_faultOf_44]
      rw [if_neg (fun q => c1 q.1)]
  have b0 : bI false = 0 := rfl
  have b1 : bI true = 1 := rfl
  cases hz : z
  · have hn : ¬ C = true := by rw [← hC, hz]; exact fun q => Bool.noConfusion q
    rw [b0]
    have nc := nocan hn
    generalize (if most < L ∧ (C = true ∨ most ≤ a) then -1 - nI most else if C = true then 0 else -1 - nI a) = R at nc ⊢
    simp (disch := omega) only [↓reduceIte, ic_t, ic_f, not_true_eq_false, not_false_eq_true, ↓lt_v, rdR, rdE, rdS, leT, leTc, leTd, leF, leFc, leFd, ltT, ltTc, ltTd, ltF, ltFc, ltFd, eqT, eqTc, eqTd, eqF, eqFc, eqFd, m1T, m1F, m1T', m1F', inb_nI, ix_nI, inb_c, ix_c, nI_1, nI_pred, nI_m1, add_nIc, add_cnI, bd_v, reduceCtorEq, eqFcc, m1e0, m1e1, m1l0, m1g0, m2l0, m2g0, Int32.reduceLT, Int32.reduceLE, Int32.reduceAdd, Int32.reduceSub, Int32.reduceMul, eq_self, Bool.false_eq_true]
    exact nc
  · rw [b1]
    by_cases c : a = m
    · have hy : C = true := by rw [← hC, hz, decide_eq_true c]; rfl
      have nc : fX10_faultOf_20 (nI L) (nI most) 1 M = some (if most < L ∧ (C = true ∨ most ≤ a) then -1 - nI most else if C = true then 0 else -1 - nI a, M) := by
        rw [e_X10_faultOf_20, if_pos hy]
        by_cases c1 : most < L
        · rw [if_pos ⟨c1, Or.inl hy⟩]
          simp (disch := omega) only [↓reduceIte, ic_t, ic_f, not_true_eq_false, not_false_eq_true, ↓lt_v, rdR, rdE, rdS, leT, leTc, leTd, leF, leFc, leFd, ltT, ltTc, ltTd, ltF, ltFc, ltFd, eqT, eqTc, eqTd, eqF, eqFc, eqFd, m1T, m1F, m1T', m1F', inb_nI, ix_nI, inb_c, ix_c, nI_1, nI_pred, nI_m1, add_nIc, add_cnI, bd_v, reduceCtorEq, eqFcc, m1e0, m1e1, m1l0, m1g0, m2l0, m2g0, Int32.reduceLT, Int32.reduceLE, Int32.reduceAdd, Int32.reduceSub, Int32.reduceMul, eq_self, Bool.false_eq_true]
        · rw [if_neg (fun q => c1 q.1)]
          simp (disch := omega) only [↓reduceIte, ic_t, ic_f, not_true_eq_false, not_false_eq_true, ↓lt_v, rdR, rdE, rdS, leT, leTc, leTd, leF, leFc, leFd, ltT, ltTc, ltTd, ltF, ltFc, ltFd, eqT, eqTc, eqTd, eqF, eqFc, eqFd, m1T, m1F, m1T', m1F', inb_nI, ix_nI, inb_c, ix_c, nI_1, nI_pred, nI_m1, add_nIc, add_cnI, bd_v, reduceCtorEq, eqFcc, m1e0, m1e1, m1l0, m1g0, m2l0, m2g0, Int32.reduceLT, Int32.reduceLE, Int32.reduceAdd, Int32.reduceSub, Int32.reduceMul, eq_self, Bool.false_eq_true, e_X10_faultOf_44]
      generalize (if most < L ∧ (C = true ∨ most ≤ a) then -1 - nI most else if C = true then 0 else -1 - nI a) = R at nc ⊢
      simp (disch := omega) only [↓reduceIte, ic_t, ic_f, not_true_eq_false, not_false_eq_true, ↓lt_v, rdR, rdE, rdS, leT, leTc, leTd, leF, leFc, leFd, ltT, ltTc, ltTd, ltF, ltFc, ltFd, eqT, eqTc, eqTd, eqF, eqFc, eqFd, m1T, m1F, m1T', m1F', inb_nI, ix_nI, inb_c, ix_c, nI_1, nI_pred, nI_m1, add_nIc, add_cnI, bd_v, reduceCtorEq, eqFcc, m1e0, m1e1, m1l0, m1g0, m2l0, m2g0, Int32.reduceLT, Int32.reduceLE, Int32.reduceAdd, Int32.reduceSub, Int32.reduceMul, eq_self, Bool.false_eq_true, h1, h2]
      exact nc
    · have hn : ¬ C = true := by rw [← hC, hz, decide_eq_false c]; exact fun q => Bool.noConfusion q
      have nc := nocan hn
      generalize (if most < L ∧ (C = true ∨ most ≤ a) then -1 - nI most else if C = true then 0 else -1 - nI a) = R at nc ⊢
      simp (disch := omega) only [↓reduceIte, ic_t, ic_f, not_true_eq_false, not_false_eq_true, ↓lt_v, rdR, rdE, rdS, leT, leTc, leTd, leF, leFc, leFd, ltT, ltTc, ltTd, ltF, ltFc, ltFd, eqT, eqTc, eqTd, eqF, eqFc, eqFd, m1T, m1F, m1T', m1F', inb_nI, ix_nI, inb_c, ix_c, nI_1, nI_pred, nI_m1, add_nIc, add_cnI, bd_v, reduceCtorEq, eqFcc, m1e0, m1e1, m1l0, m1g0, m2l0, m2g0, Int32.reduceLT, Int32.reduceLE, Int32.reduceAdd, Int32.reduceSub, Int32.reduceMul, eq_self, Bool.false_eq_true, h1, h2]
      exact nc
