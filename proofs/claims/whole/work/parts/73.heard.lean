/-! PURE: heard, sign, sheet -/
theorem r_lowest {M : Mem} {w : Nat} (hw : w < 5) : fX10_lowest (nI w) M = some (nI (qlo w), M) := by
  have f0 : ∀ N : Mem, fX10_flag 0 N = some (0, N) := fun N => r_flagI (Or.inl rfl)
  have f1 : ∀ N : Mem, fX10_flag 1 N = some (1, N) := fun N => r_flagI (Or.inr rfl)
  rw [e_X10_lowest]
  by_cases hw0 : w = 0
  · simp (disch := omega) only [↓reduceIte, ic_t, ic_f, not_true_eq_false, not_false_eq_true, ↓lt_v, rdR, rdE, rdS, leT, leTc, leTd, leF, leFc, leFd, ltT, ltTc, ltTd, ltF, ltFc, ltFd, eqT, eqTc, eqTd, eqF, eqFc, eqFd, m1T, m1F, m1T', m1F', inb_nI, ix_nI, inb_c, ix_c, nI_1, nI_pred, nI_m1, add_nIc, add_cnI, bd_v, reduceCtorEq, eqFcc, m1e0, m1e1, m1l0, m1g0, m2l0, m2g0, Int32.reduceLT, Int32.reduceLE, Int32.reduceAdd, Int32.reduceSub, Int32.reduceMul, eq_self, Bool.false_eq_true, e_X10_lowest_9, f1]; rw [hw0]; rfl
  · simp (disch := omega) only [↓reduceIte, ic_t, ic_f, not_true_eq_false, not_false_eq_true, ↓lt_v, rdR, rdE, rdS, leT, leTc, leTd, leF, leFc, leFd, ltT, ltTc, ltTd, ltF, ltFc, ltFd, eqT, eqTc, eqTd, eqF, eqFc, eqFd, m1T, m1F, m1T', m1F', inb_nI, ix_nI, inb_c, ix_c, nI_1, nI_pred, nI_m1, add_nIc, add_cnI, bd_v, reduceCtorEq, eqFcc, m1e0, m1e1, m1l0, m1g0, m2l0, m2g0, Int32.reduceLT, Int32.reduceLE, Int32.reduceAdd, Int32.reduceSub, Int32.reduceMul, eq_self, Bool.false_eq_true, e_X10_lowest_9, f0]; unfold qlo; rw [if_neg hw0]; rfl
theorem r_highest {M : Mem} {w : Nat} (hw : w < 5) : fX10_highest (nI w) M = some (nI (qlo w + qn w - 1), M) := by
  rw [e_X10_highest]
  rcases (show w = 0 ∨ w = 1 ∨ w = 2 ∨ w = 3 ∨ w = 4 by omega) with rfl | rfl | rfl | rfl | rfl <;> simp (disch := omega) only [↓reduceIte, ic_t, ic_f, not_true_eq_false, not_false_eq_true, ↓lt_v, rdR, rdE, rdS, leT, leTc, leTd, leF, leFc, leFd, ltT, ltTc, ltTd, ltF, ltFc, ltFd, eqT, eqTc, eqTd, eqF, eqFc, eqFd, m1T, m1F, m1T', m1F', inb_nI, ix_nI, inb_c, ix_c, nI_1, nI_pred, nI_m1, add_nIc, add_cnI, bd_v, reduceCtorEq, eqFcc, m1e0, m1e1, m1l0, m1g0, m2l0, m2g0, Int32.reduceLT, Int32.reduceLE, Int32.reduceAdd, Int32.reduceSub, Int32.reduceMul, eq_self, Bool.false_eq_true] <;> rfl
theorem okq_of : ∀ w, w < 5 → ∀ d, d < 11 → qlo w ≤ d → d ≤ qlo w + qn w - 1 → okq w d := by
  have h : ∀ w, w < 5 → ∀ d, d < 11 → (if qlo w ≤ d ∧ d ≤ qlo w + qn w - 1 then decide (w < 5 ∧ d < 10 ∧ (3 ≤ w → d < 2)) else true) = true := by decide +kernel
  intro w hw d hd h1 h2
  have := h w hw d hd
  rw [if_pos ⟨h1, h2⟩] at this
  exact (of_decide_eq_true this : w < 5 ∧ d < 10 ∧ (3 ≤ w → d < 2))
theorem st_heard {M : Mem} {x y : Int32} (h : Rel M) : StI (fun M => fX9_heard x y M) (fun M => fX10_heard x y M) M := by
  obtain ⟨S, hS, hc, hr⟩ := h
  have hR := hc.1.2.2.2.2
  have h12 := hc.2.2.2.2.2.2.1.1
  have e105 := hc.2.2.2.2.2.2.1.2.1
  rcases range_cases x 0 4 (by omega) (by omega) with ⟨w, _, hw4, rfl⟩ | ⟨hx, hx2⟩
  · have hw : w < 5 := by omega
    obtain ⟨t1, t2, t3, t4, t5, t6, t7⟩ := q_tab w hw
    have hi : ∀ M : Mem, fX10_in (nI w).toInt64 0 4 M = some (1, M) := fun M => by rw [r_inI (lo := 0) (hi := 4) (by decide) (by decide), nI_toInt (by omega), if_pos (by omega)]
    have lo1 : (nI (qlo w)).toInt64.toInt = ((qlo w : Nat) : Int) := by rw [Int32.toInt_toInt64, nI_toInt (by omega)]
    have hi1 : (nI (qlo w + qn w - 1)).toInt64.toInt = ((qlo w + qn w - 1 : Nat) : Int) := by rw [Int32.toInt_toInt64, nI_toInt (by omega)]
    rcases range_cases y (qlo w) (qlo w + qn w - 1) (by omega) (by omega) with ⟨u, u1, u2, rfl⟩ | ⟨hy, hy2⟩
    · have hi2 : ∀ M : Mem, fX10_in (nI u).toInt64 ((nI (qlo w)).toInt64) ((nI (qlo w + qn w - 1)).toInt64) M = some (1, M) := fun M => by rw [r_inI lo1 hi1, nI_toInt (by omega), if_pos (by omega)]
      have hmay : fX9_mayBeHeard (nI w) (nI u) M = some (1, M) := by
        rw [e_X9_mayBeHeard]
        simp (disch := omega) only [↓reduceIte, ic_t, ic_f, not_true_eq_false, not_false_eq_true, ↓lt_v, rdR, rdE, rdS, leT, leTc, leTd, leF, leFc, leFd, ltT, ltTc, ltTd, ltF, ltFc, ltFd, eqT, eqTc, eqTd, eqF, eqFc, eqFd, m1T, m1F, m1T', m1F', inb_nI, ix_nI, inb_c, ix_c, nI_1, nI_pred, nI_m1, add_nIc, add_cnI, bd_v, reduceCtorEq, eqFcc, m1e0, m1e1, m1l0, m1g0, m2l0, m2g0, Int32.reduceLT, Int32.reduceLE, Int32.reduceAdd, Int32.reduceSub, Int32.reduceMul, eq_self, Bool.false_eq_true, t2, t3]
      by_cases hf : S.2.2.2.2.2.1 = 12
      · refine st_no (x := -1) hS hc hr ?_ (fun M1 h1 => ?_)
        · show fX9_heard (nI w) (nI u) M = _
          rw [e_X9_heard]
          simp (disch := omega) only [↓reduceIte, ic_t, ic_f, not_true_eq_false, not_false_eq_true, ↓lt_v, rdR, rdE, rdS, leT, leTc, leTd, leF, leFc, leFd, ltT, ltTc, ltTd, ltF, ltFc, ltFd, eqT, eqTc, eqTd, eqF, eqFc, eqFd, m1T, m1F, m1T', m1F', inb_nI, ix_nI, inb_c, ix_c, nI_1, nI_pred, nI_m1, add_nIc, add_cnI, bd_v, reduceCtorEq, eqFcc, m1e0, m1e1, m1l0, m1g0, m2l0, m2g0, Int32.reduceLT, Int32.reduceLE, Int32.reduceAdd, Int32.reduceSub, Int32.reduceMul, eq_self, Bool.false_eq_true, hmay, e105]
        · show fX10_heard (nI w) (nI u) M1 = _
          rw [e_X10_heard]
          simp (disch := omega) only [↓reduceIte, ic_t, ic_f, not_true_eq_false, not_false_eq_true, ↓lt_v, rdR, rdE, rdS, leT, leTc, leTd, leF, leFc, leFd, ltT, ltTc, ltTd, ltF, ltFc, ltFd, eqT, eqTc, eqTd, eqF, eqFc, eqFd, m1T, m1F, m1T', m1F', inb_nI, ix_nI, inb_c, ix_c, nI_1, nI_pred, nI_m1, add_nIc, add_cnI, bd_v, reduceCtorEq, eqFcc, m1e0, m1e1, m1l0, m1g0, m2l0, m2g0, Int32.reduceLT, Int32.reduceLE, Int32.reduceAdd, Int32.reduceSub, Int32.reduceMul, eq_self, Bool.false_eq_true, hi, r_lowest, r_highest, hi2, h1.2.2.2.2.2.2.1]
      · have hoq : okq w u := okq_of w hw u (by omega) u1 u2
        refine st_gen (S := S) (S' := (S.1, S.2.1, S.2.2.1, S.2.2.2.1, S.2.2.2.2.1, (S.2.2.2.2.2.1 + 1, up1 S.2.2.2.2.2.2.1 S.2.2.2.2.2.1 w, up1 S.2.2.2.2.2.2.2 S.2.2.2.2.2.1 u))) (x := nI (S.2.2.2.2.2.1 + 1)) hS hr ?_ (fun M1 h1 => ?_)
        · show Ok (fX9_heard (nI w) (nI u) M) _
          rw [e_X9_heard]
          simp (disch := omega) only [↓reduceIte, ic_t, ic_f, not_true_eq_false, not_false_eq_true, ↓lt_v, rdR, rdE, rdS, leT, leTc, leTd, leF, leFc, leFd, ltT, ltTc, ltTd, ltF, ltFc, ltFd, eqT, eqTc, eqTd, eqF, eqFc, eqFd, m1T, m1F, m1T', m1F', inb_nI, ix_nI, inb_c, ix_c, nI_1, nI_pred, nI_m1, add_nIc, add_cnI, bd_v, reduceCtorEq, eqFcc, m1e0, m1e1, m1l0, m1g0, m2l0, m2g0, Int32.reduceLT, Int32.reduceLE, Int32.reduceAdd, Int32.reduceSub, Int32.reduceMul, eq_self, Bool.false_eq_true, hmay, e105, e_X7_add]
          obtain ⟨h1, h2, h3, h4, h5, h6, h7, h8⟩ := hc
          have ro : ∀ a, a ≠ 105 → a ≠ 106 → a ≠ 107 → (sI (sI (sI M 106 S.2.2.2.2.2.1 (nI w)) 107 S.2.2.2.2.2.1 (nI u)) 105 2 (nI (S.2.2.2.2.2.1 + 1))).1 a = M.1 a := fun a b1 b2 b3 => by rw [row_n b1, row_n b3, row_n b2]
          refine ok_some ⟨rfl, crel_all ⟨h1, h2, h3, h4, h5, h6, h7, h8⟩ ⟨rfl, rfl⟩ h1.1 ⟨rfl, rfl⟩ ⟨ro _ (by omega) (by omega) (by omega), ro _ (by omega) (by omega) (by omega)⟩ (rivC_fr h1.2.1 (fun a _ _ => ro a (by omega) (by omega) (by omega))) (txC_fr h3 (ro 2 (by omega) (by omega) (by omega)) (ro 3 (by omega) (by omega) (by omega))) (rwC_fr h4 (ro 4 (by omega) (by omega) (by omega)) rfl) (psC_fr h5 (fun a _ _ => ro a (by omega) (by omega) (by omega)) rfl) (kpC_fr h6 (fun a ha => ro a (by omega) (by omega) (by omega)) rfl) ⟨by show S.2.2.2.2.2.1 + 1 ≤ 12; omega, rdE rfl rfl, fun i hi => ?_⟩ ⟨ro 115 (by omega) (by omega) (by omega), ro 137 (by omega) (by omega) (by omega)⟩, fun a ha => ⟨ro a (by omega) (by omega) (by omega), rfl⟩⟩
          have hi : i < S.2.2.2.2.2.1 + 1 := hi
          show _ = nI (up1 S.2.2.2.2.2.2.1 S.2.2.2.2.2.1 w i) ∧ _ = nI (up1 S.2.2.2.2.2.2.2 S.2.2.2.2.2.1 u i) ∧ okq (up1 S.2.2.2.2.2.2.1 S.2.2.2.2.2.1 w i) (up1 S.2.2.2.2.2.2.2 S.2.2.2.2.2.1 u i)
          by_cases e : i = S.2.2.2.2.2.1
          · rw [up1_e e, up1_e e, e]
            simp (disch := omega) only [↓reduceIte, ic_t, ic_f, not_true_eq_false, not_false_eq_true, ↓lt_v, rdR, rdE, rdS, leT, leTc, leTd, leF, leFc, leFd, ltT, ltTc, ltTd, ltF, ltFc, ltFd, eqT, eqTc, eqTd, eqF, eqFc, eqFd, m1T, m1F, m1T', m1F', inb_nI, ix_nI, inb_c, ix_c, nI_1, nI_pred, nI_m1, add_nIc, add_cnI, bd_v, reduceCtorEq, eqFcc, m1e0, m1e1, m1l0, m1g0, m2l0, m2g0, Int32.reduceLT, Int32.reduceLE, Int32.reduceAdd, Int32.reduceSub, Int32.reduceMul, eq_self, Bool.false_eq_true]
            exact ⟨trivial, trivial, hoq⟩
          · rw [up1_n e, up1_n e]
            simp (disch := omega) only [↓reduceIte, ic_t, ic_f, not_true_eq_false, not_false_eq_true, ↓lt_v, rdR, rdE, rdS, leT, leTc, leTd, leF, leFc, leFd, ltT, ltTc, ltTd, ltF, ltFc, ltFd, eqT, eqTc, eqTd, eqF, eqFc, eqFd, m1T, m1F, m1T', m1F', inb_nI, ix_nI, inb_c, ix_c, nI_1, nI_pred, nI_m1, add_nIc, add_cnI, bd_v, reduceCtorEq, eqFcc, m1e0, m1e1, m1l0, m1g0, m2l0, m2g0, Int32.reduceLT, Int32.reduceLE, Int32.reduceAdd, Int32.reduceSub, Int32.reduceMul, eq_self, Bool.false_eq_true]
            exact h7.2.2 i (by omega)
        · show Ok (fX10_heard (nI w) (nI u) M1) _
          rw [e_X10_heard]
          simp (disch := omega) only [↓reduceIte, ic_t, ic_f, not_true_eq_false, not_false_eq_true, ↓lt_v, rdR, rdE, rdS, leT, leTc, leTd, leF, leFc, leFd, ltT, ltTc, ltTd, ltF, ltFc, ltFd, eqT, eqTc, eqTd, eqF, eqFc, eqFd, m1T, m1F, m1T', m1F', inb_nI, ix_nI, inb_c, ix_c, nI_1, nI_pred, nI_m1, add_nIc, add_cnI, bd_v, reduceCtorEq, eqFcc, m1e0, m1e1, m1l0, m1g0, m2l0, m2g0, Int32.reduceLT, Int32.reduceLE, Int32.reduceAdd, Int32.reduceSub, Int32.reduceMul, eq_self, Bool.false_eq_true, hi, r_lowest, r_highest, hi2, h1.2.2.2.2.2.2.1]
          obtain ⟨h1, h2, h3, h4, h5, h6⟩ := h1
          have ro : ∀ a, a ≠ 169 → a ≠ 198 → a ≠ 199 → (sI (sI (sI (sI M1 169 0 0) 198 S.2.2.2.2.2.1 (nI w)) 199 S.2.2.2.2.2.1 (nI u)) 169 45 (nI (S.2.2.2.2.2.1 + 1))).1 a = M1.1 a := fun a b1 b2 b3 => by rw [row_n b1, row_n b3, row_n b2, row_n b1]
          have sl : ∀ i, i ≠ 0 → i ≠ 45 → (sI (sI (sI (sI M1 169 0 0) 198 S.2.2.2.2.2.1 (nI w)) 199 S.2.2.2.2.2.1 (nI u)) 169 45 (nI (S.2.2.2.2.2.1 + 1))).1 169 i = M1.1 169 i := fun i a b => by rw [rdS b, rdR (by omega), rdR (by omega), rdS a]
          refine ok_some ⟨rfl, rrel_all ⟨h1, h2, h3, h4, h5, h6⟩ ⟨rfl, rfl⟩ h1.1 (ro 175 (by omega) (by omega) (by omega)) (fun i hi => sl i (by omega) (by omega)) (fun i hi => by rw [ro 171 (by omega) (by omega) (by omega)]; exact h1.2.2.1 i hi) (txR_fr h2 (sl 8 (by omega) (by omega)) (ro 173 (by omega) (by omega) (by omega))) (rwR_fr h3 (sl 1 (by omega) (by omega)) rfl) (psR_fr h4 (sl 28 (by omega) (by omega)) (ro 185 (by omega) (by omega) (by omega))) (kpR_fr h5 (sl 4 (by omega) (by omega)) (fun a ha => ro a (by omega) (by omega) (by omega))) ⟨by show S.2.2.2.2.2.1 + 1 ≤ 12; omega, rdE rfl rfl, fun i hi => ?_⟩, fun a ha => ⟨ro a (by omega) (by omega) (by omega), rfl⟩, rfl⟩
          have hi : i < S.2.2.2.2.2.1 + 1 := hi
          show _ = nI (up1 S.2.2.2.2.2.2.1 S.2.2.2.2.2.1 w i) ∧ _ = nI (up1 S.2.2.2.2.2.2.2 S.2.2.2.2.2.1 u i) ∧ okq (up1 S.2.2.2.2.2.2.1 S.2.2.2.2.2.1 w i) (up1 S.2.2.2.2.2.2.2 S.2.2.2.2.2.1 u i)
          by_cases e : i = S.2.2.2.2.2.1
          · rw [up1_e e, up1_e e, e]
            simp (disch := omega) only [↓reduceIte, ic_t, ic_f, not_true_eq_false, not_false_eq_true, ↓lt_v, rdR, rdE, rdS, leT, leTc, leTd, leF, leFc, leFd, ltT, ltTc, ltTd, ltF, ltFc, ltFd, eqT, eqTc, eqTd, eqF, eqFc, eqFd, m1T, m1F, m1T', m1F', inb_nI, ix_nI, inb_c, ix_c, nI_1, nI_pred, nI_m1, add_nIc, add_cnI, bd_v, reduceCtorEq, eqFcc, m1e0, m1e1, m1l0, m1g0, m2l0, m2g0, Int32.reduceLT, Int32.reduceLE, Int32.reduceAdd, Int32.reduceSub, Int32.reduceMul, eq_self, Bool.false_eq_true]
            exact ⟨trivial, trivial, hoq⟩
          · rw [up1_n e, up1_n e]
            simp (disch := omega) only [↓reduceIte, ic_t, ic_f, not_true_eq_false, not_false_eq_true, ↓lt_v, rdR, rdE, rdS, leT, leTc, leTd, leF, leFc, leFd, ltT, ltTc, ltTd, ltF, ltFc, ltFd, eqT, eqTc, eqTd, eqF, eqFc, eqFd, m1T, m1F, m1T', m1F', inb_nI, ix_nI, inb_c, ix_c, nI_1, nI_pred, nI_m1, add_nIc, add_cnI, bd_v, reduceCtorEq, eqFcc, m1e0, m1e1, m1l0, m1g0, m2l0, m2g0, Int32.reduceLT, Int32.reduceLE, Int32.reduceAdd, Int32.reduceSub, Int32.reduceMul, eq_self, Bool.false_eq_true]
            exact h6.2.2 i (by omega)
    · have hmay : fX9_mayBeHeard (nI w) y M = some (0, M) := by
        rw [e_X9_mayBeHeard]
        by_cases y0 : y < nI (qlo w)
        · simp (disch := omega) only [↓reduceIte, ic_t, ic_f, not_true_eq_false, not_false_eq_true, ↓lt_v, rdR, rdE, rdS, leT, leTc, leTd, leF, leFc, leFd, ltT, ltTc, ltTd, ltF, ltFc, ltFd, eqT, eqTc, eqTd, eqF, eqFc, eqFd, m1T, m1F, m1T', m1F', inb_nI, ix_nI, inb_c, ix_c, nI_1, nI_pred, nI_m1, add_nIc, add_cnI, bd_v, reduceCtorEq, eqFcc, m1e0, m1e1, m1l0, m1g0, m2l0, m2g0, Int32.reduceLT, Int32.reduceLE, Int32.reduceAdd, Int32.reduceSub, Int32.reduceMul, eq_self, Bool.false_eq_true, t2, eq_true y0]
        · simp (disch := omega) only [↓reduceIte, ic_t, ic_f, not_true_eq_false, not_false_eq_true, ↓lt_v, rdR, rdE, rdS, leT, leTc, leTd, leF, leFc, leFd, ltT, ltTc, ltTd, ltF, ltFc, ltFd, eqT, eqTc, eqTd, eqF, eqFc, eqFd, m1T, m1F, m1T', m1F', inb_nI, ix_nI, inb_c, ix_c, nI_1, nI_pred, nI_m1, add_nIc, add_cnI, bd_v, reduceCtorEq, eqFcc, m1e0, m1e1, m1l0, m1g0, m2l0, m2g0, Int32.reduceLT, Int32.reduceLE, Int32.reduceAdd, Int32.reduceSub, Int32.reduceMul, eq_self, Bool.false_eq_true, t2, t3, eq_false y0, eq_true (hy2.resolve_left y0)]
      refine st_no (x := -1) hS hc hr ?_ (fun M1 h1 => ?_)
      · show fX9_heard (nI w) y M = _
        rw [e_X9_heard]
        simp (disch := omega) only [↓reduceIte, ic_t, ic_f, not_true_eq_false, not_false_eq_true, ↓lt_v, rdR, rdE, rdS, leT, leTc, leTd, leF, leFc, leFd, ltT, ltTc, ltTd, ltF, ltFc, ltFd, eqT, eqTc, eqTd, eqF, eqFc, eqFd, m1T, m1F, m1T', m1F', inb_nI, ix_nI, inb_c, ix_c, nI_1, nI_pred, nI_m1, add_nIc, add_cnI, bd_v, reduceCtorEq, eqFcc, m1e0, m1e1, m1l0, m1g0, m2l0, m2g0, Int32.reduceLT, Int32.reduceLE, Int32.reduceAdd, Int32.reduceSub, Int32.reduceMul, eq_self, Bool.false_eq_true, hmay]
      · have hi2 : ∀ M : Mem, fX10_in y.toInt64 ((nI (qlo w)).toInt64) ((nI (qlo w + qn w - 1)).toInt64) M = some (0, M) := fun M => in_no lo1 hi1 hy
        show fX10_heard (nI w) y M1 = _
        rw [e_X10_heard]
        simp (disch := omega) only [↓reduceIte, ic_t, ic_f, not_true_eq_false, not_false_eq_true, ↓lt_v, rdR, rdE, rdS, leT, leTc, leTd, leF, leFc, leFd, ltT, ltTc, ltTd, ltF, ltFc, ltFd, eqT, eqTc, eqTd, eqF, eqFc, eqFd, m1T, m1F, m1T', m1F', inb_nI, ix_nI, inb_c, ix_c, nI_1, nI_pred, nI_m1, add_nIc, add_cnI, bd_v, reduceCtorEq, eqFcc, m1e0, m1e1, m1l0, m1g0, m2l0, m2g0, Int32.reduceLT, Int32.reduceLE, Int32.reduceAdd, Int32.reduceSub, Int32.reduceMul, eq_self, Bool.false_eq_true, hi, r_lowest, r_highest, hi2]
  · refine st_no (x := -1) hS hc hr ?_ (fun M1 h1 => ?_)
    · show fX9_heard x y M = _
      rw [e_X9_heard, e_X9_mayBeHeard]
      by_cases y0 : x < 0
      · simp (disch := omega) only [↓reduceIte, ic_t, ic_f, not_true_eq_false, not_false_eq_true, ↓lt_v, rdR, rdE, rdS, leT, leTc, leTd, leF, leFc, leFd, ltT, ltTc, ltTd, ltF, ltFc, ltFd, eqT, eqTc, eqTd, eqF, eqFc, eqFd, m1T, m1F, m1T', m1F', inb_nI, ix_nI, inb_c, ix_c, nI_1, nI_pred, nI_m1, add_nIc, add_cnI, bd_v, reduceCtorEq, eqFcc, m1e0, m1e1, m1l0, m1g0, m2l0, m2g0, Int32.reduceLT, Int32.reduceLE, Int32.reduceAdd, Int32.reduceSub, Int32.reduceMul, eq_self, Bool.false_eq_true, eq_true y0]
      · rcases hx2 with q | q
        · exact absurd q y0
        · have : (5 : Int32) ≤ x := by
            rw [Int32.le_iff_toInt_le]
            rw [Int32.lt_iff_toInt_lt] at q
            have e3 : (5 : Int32).toInt = 5 := by decide
            rw [nI_toInt (by omega)] at q
            omega
          simp (disch := omega) only [↓reduceIte, ic_t, ic_f, not_true_eq_false, not_false_eq_true, ↓lt_v, rdR, rdE, rdS, leT, leTc, leTd, leF, leFc, leFd, ltT, ltTc, ltTd, ltF, ltFc, ltFd, eqT, eqTc, eqTd, eqF, eqFc, eqFd, m1T, m1F, m1T', m1F', inb_nI, ix_nI, inb_c, ix_c, nI_1, nI_pred, nI_m1, add_nIc, add_cnI, bd_v, reduceCtorEq, eqFcc, m1e0, m1e1, m1l0, m1g0, m2l0, m2g0, Int32.reduceLT, Int32.reduceLE, Int32.reduceAdd, Int32.reduceSub, Int32.reduceMul, eq_self, Bool.false_eq_true, eq_false y0, eq_true this]
    · have hi : ∀ M : Mem, fX10_in x.toInt64 0 4 M = some (0, M) := fun M => in_no (lo := 0) (hi := 4) (by decide) (by decide) hx
      show fX10_heard x y M1 = _
      rw [e_X10_heard]
      simp (disch := omega) only [↓reduceIte, ic_t, ic_f, not_true_eq_false, not_false_eq_true, ↓lt_v, rdR, rdE, rdS, leT, leTc, leTd, leF, leFc, leFd, ltT, ltTc, ltTd, ltF, ltFc, ltFd, eqT, eqTc, eqTd, eqF, eqFc, eqFd, m1T, m1F, m1T', m1F', inb_nI, ix_nI, inb_c, ix_c, nI_1, nI_pred, nI_m1, add_nIc, add_cnI, bd_v, reduceCtorEq, eqFcc, m1e0, m1e1, m1l0, m1g0, m2l0, m2g0, Int32.reduceLT, Int32.reduceLE, Int32.reduceAdd, Int32.reduceSub, Int32.reduceMul, eq_self, Bool.false_eq_true, hi]
