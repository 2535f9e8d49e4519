/-! PURE: boats -/
theorem r_b81 {n J : Nat} {f : Nat → Nat} {v : VV} {s : Mem} (hJ : n + J ≤ 6) (h3 : s.1 169 3 = nI n) (h13 : s.1 169 13 = nI J) (hv : ∀ i, i < 22 → s.1 171 i = v.1 i) (hd : ∀ i, i < J → s.1 174 (2 * i) = nI (f (3 * i) - 48) ∧ s.1 174 (2 * i + 1) = nI (f (3 * i + 1) - 48)) : Ok (fX10_boats_81 FU 0 s) (fun q => q.1 = nI J ∧ q.2.1 169 3 = nI (n + J) ∧ (∀ i, i < 22 → q.2.1 171 i = (adsV n f v J).1 i) ∧ q.2.1 169 28 = (if J = 0 then s.1 169 28 else 0) ∧ q.2.1 169 4 = s.1 169 4 + (if J = 0 then 0 else 1) ∧ FrR (fun a => a = 171) (fun i => i = 3 ∨ i = 28 ∨ i = 4) s q.2) := by
  have hFU : 2000 < FU := FU_big
  generalize FU = fu0 at hFU ⊢
  refine ok_loop J (fun fu j s => fX10_boats_81 fu (nI j) s) (fun j t => t.1 169 3 = nI (n + j) ∧ t.1 169 13 = nI J ∧ (∀ i, i < 22 → t.1 171 i = (adsV n f v j).1 i) ∧ FrR (fun a => a = 171) (fun i => i = 3) s t) ?_ ?_ fu0 0 s (by omega) (by omega) ⟨h3, h13, hv, frR_rfl⟩
  · intro fu j t hj ht ih
    obtain ⟨b1, b2, b3, b4⟩ := ht
    obtain ⟨d1, d2⟩ := hd j hj
    rw [← b4.1 174 (by omega) (by omega)] at d1 d2
    have m2 : (2 : Int32) * nI j = nI (2 * j) := by rw [show (2 : Int32) = nI 2 from rfl, pk_mul]
    rw [e_X10_boats_81]
    simp (disch := omega) only [↓reduceIte, ic_t, ic_f, not_true_eq_false, not_false_eq_true, ↓lt_v, rdR, rdE, rdS, leT, leTc, leTd, leF, leFc, leFd, ltT, ltTc, ltTd, ltF, ltFc, ltFd, eqT, eqTc, eqTd, eqF, eqFc, eqFd, m1T, m1F, m1T', m1F', inb_nI, ix_nI, inb_c, ix_c, nI_1, nI_pred, nI_m1, add_nIc, add_cnI, bd_v, reduceCtorEq, eqFcc, m1e0, m1e1, m1l0, m1g0, m2l0, m2g0, Int32.reduceLT, Int32.reduceLE, Int32.reduceAdd, Int32.reduceSub, Int32.reduceMul, eq_self, Bool.false_eq_true, b2, b1, m2, d1, d2]
    refine ih _ ⟨by simp (disch := omega) only [↓reduceIte, ic_t, ic_f, not_true_eq_false, not_false_eq_true, ↓lt_v, rdR, rdE, rdS, leT, leTc, leTd, leF, leFc, leFd, ltT, ltTc, ltTd, ltF, ltFc, ltFd, eqT, eqTc, eqTd, eqF, eqFc, eqFd, m1T, m1F, m1T', m1F', inb_nI, ix_nI, inb_c, ix_c, nI_1, nI_pred, nI_m1, add_nIc, add_cnI, bd_v, reduceCtorEq, eqFcc, m1e0, m1e1, m1l0, m1g0, m2l0, m2g0, Int32.reduceLT, Int32.reduceLE, Int32.reduceAdd, Int32.reduceSub, Int32.reduceMul, eq_self, Bool.false_eq_true], by simp (disch := omega) only [↓reduceIte, ic_t, ic_f, not_true_eq_false, not_false_eq_true, ↓lt_v, rdR, rdE, rdS, leT, leTc, leTd, leF, leFc, leFd, ltT, ltTc, ltTd, ltF, ltFc, ltFd, eqT, eqTc, eqTd, eqF, eqFc, eqFd, m1T, m1F, m1T', m1F', inb_nI, ix_nI, inb_c, ix_c, nI_1, nI_pred, nI_m1, add_nIc, add_cnI, bd_v, reduceCtorEq, eqFcc, m1e0, m1e1, m1l0, m1g0, m2l0, m2g0, Int32.reduceLT, Int32.reduceLE, Int32.reduceAdd, Int32.reduceSub, Int32.reduceMul, eq_self, Bool.false_eq_true, b2], fun i hi => ?_, frR_trans b4 (by repeat (first | exact frR_rfl | refine frR_trans ?_ (frR_sI (by omega) (by omega))))⟩
    show _ = up1 (up1 (up1 (adsV n f v j).1 (n + j) (nI (f (3 * j) - 48))) (6 + (n + j)) (nI (f (3 * j + 1) - 48))) (12 + (n + j)) (nI (n + j)) i
    by_cases e1 : i = 12 + (n + j)
    · rw [up1_e e1]; simp (disch := omega) only [↓reduceIte, ic_t, ic_f, not_true_eq_false, not_false_eq_true, ↓lt_v, rdR, rdE, rdS, leT, leTc, leTd, leF, leFc, leFd, ltT, ltTc, ltTd, ltF, ltFc, ltFd, eqT, eqTc, eqTd, eqF, eqFc, eqFd, m1T, m1F, m1T', m1F', inb_nI, ix_nI, inb_c, ix_c, nI_1, nI_pred, nI_m1, add_nIc, add_cnI, bd_v, reduceCtorEq, eqFcc, m1e0, m1e1, m1l0, m1g0, m2l0, m2g0, Int32.reduceLT, Int32.reduceLE, Int32.reduceAdd, Int32.reduceSub, Int32.reduceMul, eq_self, Bool.false_eq_true]
    · rw [up1_n e1]
      by_cases e2 : i = 6 + (n + j)
      · rw [up1_e e2]; simp (disch := omega) only [↓reduceIte, ic_t, ic_f, not_true_eq_false, not_false_eq_true, ↓lt_v, rdR, rdE, rdS, leT, leTc, leTd, leF, leFc, leFd, ltT, ltTc, ltTd, ltF, ltFc, ltFd, eqT, eqTc, eqTd, eqF, eqFc, eqFd, m1T, m1F, m1T', m1F', inb_nI, ix_nI, inb_c, ix_c, nI_1, nI_pred, nI_m1, add_nIc, add_cnI, bd_v, reduceCtorEq, eqFcc, m1e0, m1e1, m1l0, m1g0, m2l0, m2g0, Int32.reduceLT, Int32.reduceLE, Int32.reduceAdd, Int32.reduceSub, Int32.reduceMul, eq_self, Bool.false_eq_true]
      · rw [up1_n e2]
        by_cases e3 : i = n + j
        · rw [up1_e e3]; simp (disch := omega) only [↓reduceIte, ic_t, ic_f, not_true_eq_false, not_false_eq_true, ↓lt_v, rdR, rdE, rdS, leT, leTc, leTd, leF, leFc, leFd, ltT, ltTc, ltTd, ltF, ltFc, ltFd, eqT, eqTc, eqTd, eqF, eqFc, eqFd, m1T, m1F, m1T', m1F', inb_nI, ix_nI, inb_c, ix_c, nI_1, nI_pred, nI_m1, add_nIc, add_cnI, bd_v, reduceCtorEq, eqFcc, m1e0, m1e1, m1l0, m1g0, m2l0, m2g0, Int32.reduceLT, Int32.reduceLE, Int32.reduceAdd, Int32.reduceSub, Int32.reduceMul, eq_self, Bool.false_eq_true]
        · rw [up1_n e3]; simp (disch := omega) only [↓reduceIte, ic_t, ic_f, not_true_eq_false, not_false_eq_true, ↓lt_v, rdR, rdE, rdS, leT, leTc, leTd, leF, leFc, leFd, ltT, ltTc, ltTd, ltF, ltFc, ltFd, eqT, eqTc, eqTd, eqF, eqFc, eqFd, m1T, m1F, m1T', m1F', inb_nI, ix_nI, inb_c, ix_c, nI_1, nI_pred, nI_m1, add_nIc, add_cnI, bd_v, reduceCtorEq, eqFcc, m1e0, m1e1, m1l0, m1g0, m2l0, m2g0, Int32.reduceLT, Int32.reduceLE, Int32.reduceAdd, Int32.reduceSub, Int32.reduceMul, eq_self, Bool.false_eq_true]; exact b3 i hi
  · intro fu t ht
    obtain ⟨b1, b2, b3, b4⟩ := ht
    have f0 : ∀ N : Mem, fX10_flag 0 N = some (0, N) := fun N => r_flagI (Or.inl rfl)
    have f1 : ∀ N : Mem, fX10_flag 1 N = some (1, N) := fun N => r_flagI (Or.inr rfl)
    have e28 := b4.2.1 28 (by omega)
    have e4 := b4.2.1 4 (by omega)
    have fr : FrR (fun a => a = 171) (fun i => i = 3 ∨ i = 28 ∨ i = 4) s t := frR_sub b4 (fun a _ h => h) (fun i h => Or.inl h)
    rw [e_X10_boats_81]
    by_cases h0 : J = 0
    · simp (disch := omega) only [↓reduceIte, ic_t, ic_f, not_true_eq_false, not_false_eq_true, ↓lt_v, rdR, rdE, rdS, leT, leTc, leTd, leF, leFc, leFd, ltT, ltTc, ltTd, ltF, ltFc, ltFd, eqT, eqTc, eqTd, eqF, eqFc, eqFd, m1T, m1F, m1T', m1F', inb_nI, ix_nI, inb_c, ix_c, nI_1, nI_pred, nI_m1, add_nIc, add_cnI, bd_v, reduceCtorEq, eqFcc, m1e0, m1e1, m1l0, m1g0, m2l0, m2g0, Int32.reduceLT, Int32.reduceLE, Int32.reduceAdd, Int32.reduceSub, Int32.reduceMul, eq_self, Bool.false_eq_true, b2, e_X10_boats_179, e_X10_boats_199, f0, e28, e4]
      refine ok_some ⟨rfl, by simp (disch := omega) only [↓reduceIte, ic_t, ic_f, not_true_eq_false, not_false_eq_true, ↓lt_v, rdR, rdE, rdS, leT, leTc, leTd, leF, leFc, leFd, ltT, ltTc, ltTd, ltF, ltFc, ltFd, eqT, eqTc, eqTd, eqF, eqFc, eqFd, m1T, m1F, m1T', m1F', inb_nI, ix_nI, inb_c, ix_c, nI_1, nI_pred, nI_m1, add_nIc, add_cnI, bd_v, reduceCtorEq, eqFcc, m1e0, m1e1, m1l0, m1g0, m2l0, m2g0, Int32.reduceLT, Int32.reduceLE, Int32.reduceAdd, Int32.reduceSub, Int32.reduceMul, eq_self, Bool.false_eq_true, b1], fun i hi => by simp (disch := omega) only [↓reduceIte, ic_t, ic_f, not_true_eq_false, not_false_eq_true, ↓lt_v, rdR, rdE, rdS, leT, leTc, leTd, leF, leFc, leFd, ltT, ltTc, ltTd, ltF, ltFc, ltFd, eqT, eqTc, eqTd, eqF, eqFc, eqFd, m1T, m1F, m1T', m1F', inb_nI, ix_nI, inb_c, ix_c, nI_1, nI_pred, nI_m1, add_nIc, add_cnI, bd_v, reduceCtorEq, eqFcc, m1e0, m1e1, m1l0, m1g0, m2l0, m2g0, Int32.reduceLT, Int32.reduceLE, Int32.reduceAdd, Int32.reduceSub, Int32.reduceMul, eq_self, Bool.false_eq_true]; exact b3 i hi, ?_, ?_, frR_trans fr (by repeat (first | exact frR_rfl | refine frR_trans ?_ (frR_sI (by omega) (by omega))))⟩
      · rw [if_pos h0]; simp (disch := omega) only [↓reduceIte, ic_t, ic_f, not_true_eq_false, not_false_eq_true, ↓lt_v, rdR, rdE, rdS, leT, leTc, leTd, leF, leFc, leFd, ltT, ltTc, ltTd, ltF, ltFc, ltFd, eqT, eqTc, eqTd, eqF, eqFc, eqFd, m1T, m1F, m1T', m1F', inb_nI, ix_nI, inb_c, ix_c, nI_1, nI_pred, nI_m1, add_nIc, add_cnI, bd_v, reduceCtorEq, eqFcc, m1e0, m1e1, m1l0, m1g0, m2l0, m2g0, Int32.reduceLT, Int32.reduceLE, Int32.reduceAdd, Int32.reduceSub, Int32.reduceMul, eq_self, Bool.false_eq_true]
      · rw [if_pos h0]; simp (disch := omega) only [↓reduceIte, ic_t, ic_f, not_true_eq_false, not_false_eq_true, ↓lt_v, rdR, rdE, rdS, leT, leTc, leTd, leF, leFc, leFd, ltT, ltTc, ltTd, ltF, ltFc, ltFd, eqT, eqTc, eqTd, eqF, eqFc, eqFd, m1T, m1F, m1T', m1F', inb_nI, ix_nI, inb_c, ix_c, nI_1, nI_pred, nI_m1, add_nIc, add_cnI, bd_v, reduceCtorEq, eqFcc, m1e0, m1e1, m1l0, m1g0, m2l0, m2g0, Int32.reduceLT, Int32.reduceLE, Int32.reduceAdd, Int32.reduceSub, Int32.reduceMul, eq_self, Bool.false_eq_true]
    · simp (disch := omega) only [↓reduceIte, ic_t, ic_f, not_true_eq_false, not_false_eq_true, ↓lt_v, rdR, rdE, rdS, leT, leTc, leTd, leF, leFc, leFd, ltT, ltTc, ltTd, ltF, ltFc, ltFd, eqT, eqTc, eqTd, eqF, eqFc, eqFd, m1T, m1F, m1T', m1F', inb_nI, ix_nI, inb_c, ix_c, nI_1, nI_pred, nI_m1, add_nIc, add_cnI, bd_v, reduceCtorEq, eqFcc, m1e0, m1e1, m1l0, m1g0, m2l0, m2g0, Int32.reduceLT, Int32.reduceLE, Int32.reduceAdd, Int32.reduceSub, Int32.reduceMul, eq_self, Bool.false_eq_true, b2, e_X10_boats_179, e_X10_boats_199, f1, e28, e4]
      refine ok_some ⟨rfl, by simp (disch := omega) only [↓reduceIte, ic_t, ic_f, not_true_eq_false, not_false_eq_true, ↓lt_v, rdR, rdE, rdS, leT, leTc, leTd, leF, leFc, leFd, ltT, ltTc, ltTd, ltF, ltFc, ltFd, eqT, eqTc, eqTd, eqF, eqFc, eqFd, m1T, m1F, m1T', m1F', inb_nI, ix_nI, inb_c, ix_c, nI_1, nI_pred, nI_m1, add_nIc, add_cnI, bd_v, reduceCtorEq, eqFcc, m1e0, m1e1, m1l0, m1g0, m2l0, m2g0, Int32.reduceLT, Int32.reduceLE, Int32.reduceAdd, Int32.reduceSub, Int32.reduceMul, eq_self, Bool.false_eq_true, b1], fun i hi => by simp (disch := omega) only [↓reduceIte, ic_t, ic_f, not_true_eq_false, not_false_eq_true, ↓lt_v, rdR, rdE, rdS, leT, leTc, leTd, leF, leFc, leFd, ltT, ltTc, ltTd, ltF, ltFc, ltFd, eqT, eqTc, eqTd, eqF, eqFc, eqFd, m1T, m1F, m1T', m1F', inb_nI, ix_nI, inb_c, ix_c, nI_1, nI_pred, nI_m1, add_nIc, add_cnI, bd_v, reduceCtorEq, eqFcc, m1e0, m1e1, m1l0, m1g0, m2l0, m2g0, Int32.reduceLT, Int32.reduceLE, Int32.reduceAdd, Int32.reduceSub, Int32.reduceMul, eq_self, Bool.false_eq_true]; exact b3 i hi, ?_, ?_, frR_trans fr (by repeat (first | exact frR_rfl | refine frR_trans ?_ (frR_sI (by omega) (by omega))))⟩
      · rw [if_neg h0]; simp (disch := omega) only [↓reduceIte, ic_t, ic_f, not_true_eq_false, not_false_eq_true, ↓lt_v, rdR, rdE, rdS, leT, leTc, leTd, leF, leFc, leFd, ltT, ltTc, ltTd, ltF, ltFc, ltFd, eqT, eqTc, eqTd, eqF, eqFc, eqFd, m1T, m1F, m1T', m1F', inb_nI, ix_nI, inb_c, ix_c, nI_1, nI_pred, nI_m1, add_nIc, add_cnI, bd_v, reduceCtorEq, eqFcc, m1e0, m1e1, m1l0, m1g0, m2l0, m2g0, Int32.reduceLT, Int32.reduceLE, Int32.reduceAdd, Int32.reduceSub, Int32.reduceMul, eq_self, Bool.false_eq_true]
      · rw [if_neg h0]; simp (disch := omega) only [↓reduceIte, ic_t, ic_f, not_true_eq_false, not_false_eq_true, ↓lt_v, rdR, rdE, rdS, leT, leTc, leTd, leF, leFc, leFd, ltT, ltTc, ltTd, ltF, ltFc, ltFd, eqT, eqTc, eqTd, eqF, eqFc, eqFd, m1T, m1F, m1T', m1F', inb_nI, ix_nI, inb_c, ix_c, nI_1, nI_pred, nI_m1, add_nIc, add_cnI, bd_v, reduceCtorEq, eqFcc, m1e0, m1e1, m1l0, m1g0, m2l0, m2g0, Int32.reduceLT, Int32.reduceLE, Int32.reduceAdd, Int32.reduceSub, Int32.reduceMul, eq_self, Bool.false_eq_true]
theorem neg17 {b : Nat} (hb : b ≤ 17) : ((0 : Int32) ≤ -1 - nI b) = False := by
  have : ∀ b, b < 18 → ¬ ((0 : Int32) ≤ -1 - nI b) := by decide
  exact eq_false (this b (by omega))
theorem r_boats {n L : Nat} {f : Nat → Nat} {v : VV} {M : Mem} (hn : n ≤ 6) (hT : TxR L f M) (h3 : M.1 169 3 = nI n) (hv : ∀ i, i < 22 → M.1 171 i = v.1 i) : Ok (fX10_boats M) (fun q => q.2.1 169 8 = nI 0 ∧ FrR (fun a => a = 171 ∨ a = 174) (fun i => i = 0 ∨ i = 3 ∨ i = 4 ∨ i = 8 ∨ i = 9 ∨ i = 10 ∨ i = 11 ∨ i = 13 ∨ i = 28) M q.2 ∧ ((bOK L (6 - n) f ∧ n + (L + 1) / 3 ≤ 6 ∧ q.1 = nI ((L + 1) / 3) ∧ q.2.1 169 3 = nI (n + (L + 1) / 3) ∧ (∀ i, i < 22 → q.2.1 171 i = (adsV n f v ((L + 1) / 3)).1 i) ∧ q.2.1 169 28 = (if (L + 1) / 3 = 0 then M.1 169 28 else 0) ∧ q.2.1 169 4 = M.1 169 4 + (if (L + 1) / 3 = 0 then 0 else 1)) ∨ (¬ bOK L (6 - n) f ∧ q.1 = -1 - nI (bF L (6 - n) f) ∧ q.2.1 169 3 = nI n ∧ (∀ i, i < 22 → q.2.1 171 i = v.1 i) ∧ q.2.1 169 28 = M.1 169 28 ∧ q.2.1 169 4 = M.1 169 4))) := by
  have hL := hT.1
  rw [e_X10_boats]
  simp only [lt_v]
  refine ok_call (r_begins (L := L) (most := 17) (f := f) (txR_fr hT (rdS (by omega)) (row_n (by omega))) (by omega)) (fun q g => ?_)
  obtain ⟨g1, g2, g3, g4, g5⟩ := g
  have fr0 : FrR (fun a => a = 171 ∨ a = 174) (fun i => i = 0 ∨ i = 3 ∨ i = 4 ∨ i = 8 ∨ i = 9 ∨ i = 10 ∨ i = 11 ∨ i = 13 ∨ i = 28) M (sI q.2 169 13 (nI 0)) := frR_trans (frR_trans (frR_sI (by omega) (by omega)) (frR_sub g5 (fun a _ h => h.elim) (fun i h => by omega))) (frR_sI (by omega) (by omega))
  have k3 : (sI q.2 169 13 (nI 0)).1 169 3 = nI n := by rw [rdS (by omega), g5.2.1 3 (by omega), rdS (by omega)]; exact h3
  have k28 : (sI q.2 169 13 (nI 0)).1 169 28 = M.1 169 28 := by rw [rdS (by omega), g5.2.1 28 (by omega), rdS (by omega)]
  have k4 : (sI q.2 169 13 (nI 0)).1 169 4 = M.1 169 4 := by rw [rdS (by omega), g5.2.1 4 (by omega), rdS (by omega)]
  have k8 : (sI q.2 169 13 (nI 0)).1 169 8 = nI 0 := by rw [rdS (by omega)]; exact g3
  have k171 : ∀ i, i < 22 → (sI q.2 169 13 (nI 0)).1 171 i = v.1 i := fun i hi => by rw [row_n (by omega), g5.1 171 (by omega) (fun h => h), row_n (by omega)]; exact hv i hi
  have k13 : (sI q.2 169 13 (nI 0)).1 169 13 = nI 0 := rdE rfl rfl
  have kA : AtR 0 (min L 17) f (sI q.2 169 13 (nI 0)) := atR_fr g2 (rdS (by omega)) (rdS (by omega)) (row_n (by omega))
  have nn : (0 : Int32) = nI 0 := rfl
  rw [g1]
  rw [show sI q.2 169 13 0 = sI q.2 169 13 (nI 0) from rfl]
  generalize sI q.2 169 13 (nI 0) = N at fr0 k3 k28 k4 k8 k171 k13 kA ⊢
  have K : ∀ fu z a s, EnR n L f N z a s → Ok (fX10_boats_29 (fu + 1) (nI L) (bI z) 0 s) (fun q => q.2.1 169 8 = nI 0 ∧ FrR (fun a => a = 171 ∨ a = 174) (fun i => i = 0 ∨ i = 3 ∨ i = 4 ∨ i = 8 ∨ i = 9 ∨ i = 10 ∨ i = 11 ∨ i = 13 ∨ i = 28) M q.2 ∧ ((bOK L (6 - n) f ∧ n + (L + 1) / 3 ≤ 6 ∧ q.1 = nI ((L + 1) / 3) ∧ q.2.1 169 3 = nI (n + (L + 1) / 3) ∧ (∀ i, i < 22 → q.2.1 171 i = (adsV n f v ((L + 1) / 3)).1 i) ∧ q.2.1 169 28 = (if (L + 1) / 3 = 0 then M.1 169 28 else 0) ∧ q.2.1 169 4 = M.1 169 4 + (if (L + 1) / 3 = 0 then 0 else 1)) ∨ (¬ bOK L (6 - n) f ∧ q.1 = -1 - nI (bF L (6 - n) f) ∧ q.2.1 169 3 = nI n ∧ (∀ i, i < 22 → q.2.1 171 i = v.1 i) ∧ q.2.1 169 28 = M.1 169 28 ∧ q.2.1 169 4 = M.1 169 4))) := by
    intro fu z a s hE
    obtain ⟨e1, e2, e3, e4, e5⟩ := hE
    have ha := e1.2.2.2.1
    have hfo : fX10_faultOf (nI L) 17 (bI z) s = _ := r_faultOf (most := 17) e1 hL (by omega)
    have s3 : s.1 169 3 = nI n := by rw [e5.2.1 3 (by omega)]; exact k3
    have s28 : s.1 169 28 = M.1 169 28 := by rw [e5.2.1 28 (by omega)]; exact k28
    have s4 : s.1 169 4 = M.1 169 4 := by rw [e5.2.1 4 (by omega)]; exact k4
    have s8 : s.1 169 8 = nI 0 := by rw [e5.2.1 8 (by omega)]; exact k8
    have s171 : ∀ i, i < 22 → s.1 171 i = v.1 i := fun i hi => by rw [e5.1 171 (by omega) (by omega)]; exact k171 i hi
    have frs : FrR (fun a => a = 171 ∨ a = 174) (fun i => i = 0 ∨ i = 3 ∨ i = 4 ∨ i = 8 ∨ i = 9 ∨ i = 10 ∨ i = 11 ∨ i = 13 ∨ i = 28) M s := frR_trans fr0 (frR_sub e5 (fun a _ h => Or.inr h) (fun i h => by omega))
    rw [e_X10_boats_29]
    by_cases hok : bOK L (6 - n) f
    · have hb : L ≤ 17 ∧ a = L ∧ (L % 3 = 2 ∨ L = 0) := by
        rcases hok with h | h
        · omega
        · exact ⟨h.1, by omega, Or.inl h.2.2⟩
      have hz : z = true := e3.2 (by omega)
      rw [hz, show (true && decide (a = min L 17)) = true by rw [decide_eq_true (by omega)]; rfl, if_neg (by omega), if_pos rfl] at hfo
      obtain ⟨p1, p2, p3⟩ := e4 hz
      rw [hb.2.1] at p1 p2 p3
      rw [hz]
      simp (disch := omega) only [↓reduceIte, ic_t, ic_f, not_true_eq_false, not_false_eq_true, ↓lt_v, rdR, rdE, rdS, leT, leTc, leTd, leF, leFc, leFd, ltT, ltTc, ltTd, ltF, ltFc, ltFd, eqT, eqTc, eqTd, eqF, eqFc, eqFd, m1T, m1F, m1T', m1F', inb_nI, ix_nI, inb_c, ix_c, nI_1, nI_pred, nI_m1, add_nIc, add_cnI, bd_v, reduceCtorEq, eqFcc, m1e0, m1e1, m1l0, m1g0, m2l0, m2g0, Int32.reduceLT, Int32.reduceLE, Int32.reduceAdd, Int32.reduceSub, Int32.reduceMul, eq_self, Bool.false_eq_true, hfo]
      refine ok_mono (r_b81 (f := f) (v := v) p2 s3 p1 s171 p3) (fun q r => ?_)
      obtain ⟨r1, r2, r3, r4, r5, r6⟩ := r
      exact ⟨by rw [r6.2.1 8 (by omega)]; exact s8, frR_trans frs (frR_sub r6 (fun a _ h => Or.inl h) (fun i h => by omega)), Or.inl ⟨hok, p2, r1, r2, r3, by rw [r4, s28], by rw [r5, s4]⟩⟩
    · have hx : (if 17 < L ∧ ((z && decide (a = min L 17)) = true ∨ 17 ≤ a) then -1 - nI 17 else if (z && decide (a = min L 17)) = true then 0 else -1 - nI a) = -1 - nI a := by
        by_cases c : (z && decide (a = min L 17)) = true
        · have c' := c
          simp only [Bool.and_eq_true, decide_eq_true_eq] at c'
          have h2 := e3.1 c'.1
          by_cases c1 : 17 < L
          · rw [if_pos ⟨c1, Or.inl c⟩, show a = 17 by omega]
          · exact absurd (show bOK L (6 - n) f from h2.elim (fun h => Or.inr ⟨by omega, by omega, by omega⟩) Or.inl) hok
        · by_cases c1 : 17 < L ∧ 17 ≤ a
          · rw [if_pos ⟨c1.1, Or.inr c1.2⟩, show a = 17 by omega]
          · rw [if_neg (fun q => q.2.elim c (fun h => c1 ⟨q.1, h⟩)), if_neg c]
      rw [hx] at hfo
      have := neg17 (b := a) (by omega)
      simp (disch := omega) only [↓reduceIte, ic_t, ic_f, not_true_eq_false, not_false_eq_true, ↓lt_v, rdR, rdE, rdS, leT, leTc, leTd, leF, leFc, leFd, ltT, ltTc, ltTd, ltF, ltFc, ltFd, eqT, eqTc, eqTd, eqF, eqFc, eqFd, m1T, m1F, m1T', m1F', inb_nI, ix_nI, inb_c, ix_c, nI_1, nI_pred, nI_m1, add_nIc, add_cnI, bd_v, reduceCtorEq, eqFcc, m1e0, m1e1, m1l0, m1g0, m2l0, m2g0, Int32.reduceLT, Int32.reduceLE, Int32.reduceAdd, Int32.reduceSub, Int32.reduceMul, eq_self, Bool.false_eq_true, hfo, this]
      exact ok_some ⟨s8, frs, Or.inr ⟨hok, by rw [e2], s3, s171, s28, s4⟩⟩
  by_cases h0 : L = 0
  · have hFU : 2000 < FU := FU_big
    obtain ⟨fu, hfu⟩ : ∃ fu, FU = fu + 1 := ⟨FU - 1, by omega⟩
    have := K fu true 0 N ⟨kA, by have := bF_le (L := L) (room := 6 - n) (f := f); omega, ⟨fun _ => Or.inr h0, fun _ => rfl⟩, fun _ => ⟨k13, by omega, fun i hi => absurd hi (by omega)⟩, frR_rfl⟩
    rw [hfu]
    simp (disch := omega) only [↓reduceIte, ic_t, ic_f, not_true_eq_false, not_false_eq_true, ↓lt_v, rdR, rdE, rdS, leT, leTc, leTd, leF, leFc, leFd, ltT, ltTc, ltTd, ltF, ltFc, ltFd, eqT, eqTc, eqTd, eqF, eqFc, eqFd, m1T, m1F, m1T', m1F', inb_nI, ix_nI, inb_c, ix_c, nI_1, nI_pred, nI_m1, add_nIc, add_cnI, bd_v, reduceCtorEq, eqFcc, m1e0, m1e1, m1l0, m1g0, m2l0, m2g0, Int32.reduceLT, Int32.reduceLE, Int32.reduceAdd, Int32.reduceSub, Int32.reduceMul, eq_self, Bool.false_eq_true]
    exact this
  · have hFU : 2000 < FU := FU_big
    have := r_b29 h0 K 6 FU 0 N 1 (by omega) (by omega) (by omega) (fun p hp => absurd hp (by omega)) ⟨kA, k3, k13, fun i hi => absurd hi (Nat.not_lt_zero _), frR_rfl⟩
    simp (disch := omega) only [↓reduceIte, ic_t, ic_f, not_true_eq_false, not_false_eq_true, ↓lt_v, rdR, rdE, rdS, leT, leTc, leTd, leF, leFc, leFd, ltT, ltTc, ltTd, ltF, ltFc, ltFd, eqT, eqTc, eqTd, eqF, eqFc, eqFd, m1T, m1F, m1T', m1F', inb_nI, ix_nI, inb_c, ix_c, nI_1, nI_pred, nI_m1, add_nIc, add_cnI, bd_v, reduceCtorEq, eqFcc, m1e0, m1e1, m1l0, m1g0, m2l0, m2g0, Int32.reduceLT, Int32.reduceLE, Int32.reduceAdd, Int32.reduceSub, Int32.reduceMul, eq_self, Bool.false_eq_true]
    exact this
theorem spOK_emS {S : SP} (h : spOK S) : spOK (emS S) := h
theorem spOK_boS {S : SP} (h : spOK S) (hJ : S.1.1 + (S.2.1.1 + 1) / 3 ≤ 6) : spOK (boS S) := ⟨wf_adsV h.1 _ hJ, h.2.1, Nat.zero_le _, fun j hj => absurd hj (Nat.not_lt_zero _), fun i hi => Bool.noConfusion hi⟩
theorem st_boats {M : Mem} (h : Rel M) : StI (fun M => fX9_boats M) (fun M => fX10_boats M) M := by
  obtain ⟨S, hS, hc, hr⟩ := h
  have hn : S.1.1 ≤ 6 := hS.1.1
  have rb := fun (M1 : Mem) (h1 : RRel S M1) => r_boats hn h1.2.1 h1.1.2.1 h1.1.2.2.1
  have em : ∀ M1 M2 : Mem, RRel S M1 → M2.1 169 8 = nI 0 → FrR (fun a => a = 171 ∨ a = 174) (fun i => i = 0 ∨ i = 3 ∨ i = 4 ∨ i = 8 ∨ i = 9 ∨ i = 10 ∨ i = 11 ∨ i = 13 ∨ i = 28) M1 M2 → M2.1 169 3 = nI S.1.1 → (∀ i, i < 22 → M2.1 171 i = S.1.2.1.1 i) → M2.1 169 28 = M1.1 169 28 → M2.1 169 4 = M1.1 169 4 → RRel (emS S) M2 := by
    intro M1 M2 h p8 fr p3 p171 p28 p4
    have hr0 := h
    obtain ⟨h1, h2, h3, h4, h5, h6⟩ := h
    exact ⟨⟨h1.1, p3, p171, ruR_fr h1.2.2.2 (fr.1 175 (by omega) (by omega)) (fr.2.1 16 (by omega))⟩, ⟨Nat.zero_le _, p8, fun i hi => absurd hi (Nat.not_lt_zero _)⟩, rwR_fr h3 (fr.2.1 1 (by omega)) (by rw [fr.2.2]), psR_fr h4 p28 (fr.1 185 (by omega) (by omega)), kpR_fr h5 p4 (fun a ha => fr.1 a (by omega) (by omega)), hR_fr h6 (fr.2.1 45 (by omega)) (fun a ha => fr.1 a (by omega) (by omega))⟩
  have rf : ∀ M1 M2 : Mem, FrR (fun a => a = 171 ∨ a = 174) (fun i => i = 0 ∨ i = 3 ∨ i = 4 ∨ i = 8 ∨ i = 9 ∨ i = 10 ∨ i = 11 ∨ i = 13 ∨ i = 28) M1 M2 → RFr M1 M2 := fun M1 M2 fr => ⟨fun a ha => ⟨fr.1 a (by omega) (by omega), by rw [fr.2.2]⟩, by rw [fr.2.2]⟩
  by_cases hok : bOK S.2.1.1 (6 - S.1.1) S.2.1.2
  · by_cases h0 : S.2.1.1 = 0
    · have hz : (S.2.1.1 + 1) / 3 = 0 := by omega
      refine st_gen (S := S) (S' := emS S) (x := nI ((S.2.1.1 + 1) / 3)) (spOK_emS hS) hr (ok_mono (c_boats hS hc) (fun q g => ?_)) (fun M1 h1 => ok_mono (rb M1 h1) (fun q g => ?_))
      · have := g.1 hok
        rw [if_pos h0] at this
        exact ⟨this.1, this.2, g.2.2⟩
      · obtain ⟨p8, fr, g⟩ := g
        rcases g with ⟨_, q0, q1, q2, q3, q4, q5⟩ | ⟨hno, _⟩
        · refine ⟨q1, em M1 _ h1 p8 fr ?_ (fun i hi => ?_) ?_ ?_, rf _ _ fr⟩
          · rw [q2, hz]; rfl
          · rw [q3 i hi, hz]; rfl
          · rw [q4, if_pos hz]
          · rw [q5, if_pos hz, Int32.add_zero]
        · exact absurd hok hno
    · have hk1 : ¬ (S.2.1.1 + 1) / 3 = 0 := by have := hok.resolve_left h0; omega
      have hroom := (bok_fl hok h0).1
      refine st_gen (S := S) (S' := boS S) (x := nI ((S.2.1.1 + 1) / 3)) (spOK_boS hS (by omega)) hr (ok_mono (c_boats hS hc) (fun q g => ?_)) (fun M1 h1 => ok_mono (rb M1 h1) (fun q g => ?_))
      · have := g.1 hok
        rw [if_neg h0] at this
        exact ⟨this.1, this.2, g.2.2⟩
      · obtain ⟨p8, fr, g⟩ := g
        rcases g with ⟨_, q0, q1, q2, q3, q4, q5⟩ | ⟨hno, _⟩
        · rw [if_neg hk1] at q4 q5
          obtain ⟨h1, h2, h3, h4, h5, h6⟩ := h1
          refine ⟨q1, ⟨⟨wf_adsV hS.1 _ q0, q2, q3, ruR_fr h1.2.2.2 (fr.1 175 (by omega) (by omega)) (fr.2.1 16 (by omega))⟩, ⟨Nat.zero_le _, p8, fun i hi => absurd hi (Nat.not_lt_zero _)⟩, rwR_fr h3 (fr.2.1 1 (by omega)) (by rw [fr.2.2]), ⟨q4, fun j hj => absurd hj (Nat.not_lt_zero _)⟩, ?_, hR_fr h6 (fr.2.1 45 (by omega)) (fun a ha => fr.1 a (by omega) (by omega))⟩, rf _ _ fr⟩
          obtain ⟨c, c1, c2, c3⟩ := h5
          refine ⟨c + 1, ?_, ?_, fun i hi => ?_⟩
          · show c + 1 ≤ S.1.1 + (S.2.1.1 + 1) / 3
            omega
          · rw [q5, c2]; simp (disch := omega) only [↓reduceIte, ic_t, ic_f, not_true_eq_false, not_false_eq_true, ↓lt_v, rdR, rdE, rdS, leT, leTc, leTd, leF, leFc, leFd, ltT, ltTc, ltTd, ltF, ltFc, ltFd, eqT, eqTc, eqTd, eqF, eqFc, eqFd, m1T, m1F, m1T', m1F', inb_nI, ix_nI, inb_c, ix_c, nI_1, nI_pred, nI_m1, add_nIc, add_cnI, bd_v, reduceCtorEq, eqFcc, m1e0, m1e1, m1l0, m1g0, m2l0, m2g0, Int32.reduceLT, Int32.reduceLE, Int32.reduceAdd, Int32.reduceSub, Int32.reduceMul, eq_self, Bool.false_eq_true]
          · obtain ⟨b, kc, d1, d2, d3, d4, d5⟩ := c3 i hi
            refine ⟨b, kc, by rw [fr.1 202 (by omega) (by omega)]; exact d1, by omega, by rw [fr.1 203 (by omega) (by omega)]; exact d3, ?_, fun e => Bool.noConfusion e⟩
            show false = _
            rw [decide_eq_false (by omega)]
            cases b <;> rfl
        · exact absurd hok hno
  · refine st_gen (S := S) (S' := emS S) (x := -1 - nI (bF S.2.1.1 (6 - S.1.1) S.2.1.2)) (spOK_emS hS) hr (ok_mono (c_boats hS hc) (fun q g => ?_)) (fun M1 h1 => ok_mono (rb M1 h1) (fun q g => ?_))
    · have := g.2.1 hok
      exact ⟨this.1, this.2, g.2.2⟩
    · obtain ⟨p8, fr, g⟩ := g
      rcases g with ⟨hy, _⟩ | ⟨_, q1, q2, q3, q4, q5⟩
      · exact absurd hy hok
      · exact ⟨q1, em M1 _ h1 p8 fr q2 q3 q4 q5, rf _ _ fr⟩
