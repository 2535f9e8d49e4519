/-! PURE: numbers of orders -/
def b6 (o : Nat → Nat) : Nat → Nat
  | 0 => 0
  | k + 1 => b6 o k * 6 + o k
theorem c_orderNumber {M : Mem} {n r : Nat} {v : VV} (hn : n ≤ 6) (hv : RvC r n v M) : fX4_orderNumber r M = some (nI (b6 v.2 n), M) := by
  have hFU : 2000 < FU := FU_big
  have e0 : M.1 r 0 = nI n := hv.1
  have go : ∀ k, k ≤ n → fX4_orderNumber r M = fX4_orderNumber_4 (FU - k) r (nI (b6 v.2 k)) (nI k) M := by
    intro k
    induction k with
    | zero => intro _; rw [e_X4_orderNumber]; rfl
    | succ k ih =>
      intro hk
      have h5 : M.1 (r + 4) k = nI (v.2 k) := hv.2.2.2.2.1 k (by omega)
      have e6 : nI (b6 v.2 k) * 6 + nI (v.2 k) = nI (b6 v.2 (k + 1)) := by
        rw [show (6 : Int32) = nI 6 from rfl, pk_mul, nI_add]; rfl
      rw [ih (by omega), show FU - k = (FU - (k + 1)) + 1 by omega, e_X4_orderNumber_4]
      simp (disch := omega) only [↓reduceIte, ic_t, ic_f, not_true_eq_false, not_false_eq_true, ↓lt_v, leT, leTc, leTd, leF, leFc, leFd, ltT, ltTc, ltTd, ltF, ltFc, ltFd, eqT, eqTc, eqTd, eqF, eqFc, eqFd, m1T, m1F, m1T', m1F', inb_nI, ix_nI, inb_c, ix_c, nI_1, nI_pred, nI_m1, add_nIc, add_cnI, bd_v, reduceCtorEq, eqFcc, m1e0, m1e1, m1l0, m1g0, m2l0, m2g0, Int32.reduceLT, Int32.reduceLE, Int32.reduceAdd, Int32.reduceSub, Int32.reduceMul, eq_self, Bool.false_eq_true, e0, h5, e6]
  rw [go n (Nat.le_refl _), show FU - n = (FU - (n + 1)) + 1 by omega, e_X4_orderNumber_4]
  simp (disch := omega) only [↓reduceIte, ic_t, ic_f, not_true_eq_false, not_false_eq_true, ↓lt_v, leT, leTc, leTd, leF, leFc, leFd, ltT, ltTc, ltTd, ltF, ltFc, ltFd, eqT, eqTc, eqTd, eqF, eqFc, eqFd, m1T, m1F, m1T', m1F', inb_nI, ix_nI, inb_c, ix_c, nI_1, nI_pred, nI_m1, add_nIc, add_cnI, bd_v, reduceCtorEq, eqFcc, m1e0, m1e1, m1l0, m1g0, m2l0, m2g0, Int32.reduceLT, Int32.reduceLE, Int32.reduceAdd, Int32.reduceSub, Int32.reduceMul, eq_self, Bool.false_eq_true, e0]
theorem r_many {s : Mem} : ∀ k d, k ≤ d → k ≤ 6 → fX10_many (d + 1) (nI k) s = some (nI (fac k), s)
  | 0, d, _, _ => by
    rw [e_X10_many, e_X10_many_b]
    simp (disch := omega) only [↓reduceIte, ic_t, ic_f, not_true_eq_false, not_false_eq_true, ↓lt_v, leT, leTc, leTd, leF, leFc, leFd, ltT, ltTc, ltTd, ltF, ltFc, ltFd, eqT, eqTc, eqTd, eqF, eqFc, eqFd, m1T, m1F, m1T', m1F', inb_nI, ix_nI, inb_c, ix_c, nI_1, nI_pred, nI_m1, add_nIc, add_cnI, bd_v, reduceCtorEq, eqFcc, m1e0, m1e1, m1l0, m1g0, m2l0, m2g0, Int32.reduceLT, Int32.reduceLE, Int32.reduceAdd, Int32.reduceSub, Int32.reduceMul, eq_self, Bool.false_eq_true]
    rfl
  | 1, d, _, _ => by
    rw [e_X10_many, e_X10_many_b]
    simp (disch := omega) only [↓reduceIte, ic_t, ic_f, not_true_eq_false, not_false_eq_true, ↓lt_v, leT, leTc, leTd, leF, leFc, leFd, ltT, ltTc, ltTd, ltF, ltFc, ltFd, eqT, eqTc, eqTd, eqF, eqFc, eqFd, m1T, m1F, m1T', m1F', inb_nI, ix_nI, inb_c, ix_c, nI_1, nI_pred, nI_m1, add_nIc, add_cnI, bd_v, reduceCtorEq, eqFcc, m1e0, m1e1, m1l0, m1g0, m2l0, m2g0, Int32.reduceLT, Int32.reduceLE, Int32.reduceAdd, Int32.reduceSub, Int32.reduceMul, eq_self, Bool.false_eq_true]
    rfl
  | k + 2, d, hd, hk => by
    obtain ⟨d, rfl⟩ : ∃ m, d = m + 1 := ⟨d - 1, by omega⟩
    have ih := r_many (s := s) (k + 1) d (by omega) (by omega)
    have hpr : nI (k + 2) - 1 = nI (k + 1) := by rw [sub_nIc (by omega)]; rfl
    rw [e_X10_many, e_X10_many_b]
    simp (disch := omega) only [↓reduceIte, ic_t, ic_f, not_true_eq_false, not_false_eq_true, ↓lt_v, leT, leTc, leTd, leF, leFc, leFd, ltT, ltTc, ltTd, ltF, ltFc, ltFd, eqT, eqTc, eqTd, eqF, eqFc, eqFd, m1T, m1F, m1T', m1F', inb_nI, ix_nI, inb_c, ix_c, nI_1, nI_pred, nI_m1, add_nIc, add_cnI, bd_v, reduceCtorEq, eqFcc, m1e0, m1e1, m1l0, m1g0, m2l0, m2g0, Int32.reduceLT, Int32.reduceLE, Int32.reduceAdd, Int32.reduceSub, Int32.reduceMul, eq_self, Bool.false_eq_true, hpr, ih, pk_mul]
    rfl
