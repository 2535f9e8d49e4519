/-! PURE: reading a rule: signs, numbers -/
theorem r_takesOf1 {M : Mem} {a m : Nat} {f : Nat → Nat} (h : AtR a m f M) : fX10_takesOf 1 M = if a < m ∧ f a = 60 then some (0, sI M 169 9 (nI (a + 1))) else if a < m ∧ f a = 62 then some (1, sI M 169 9 (nI (a + 1))) else if a < m ∧ f a = 61 then some (2, sI M 169 9 (nI (a + 1))) else some (-1, M) := by
  obtain ⟨h1, h2, h3, h4, h5⟩ := h
  have hFU : 2000 < FU := FU_big
  obtain ⟨w, hw⟩ : ∃ w, FU = w + 1 + 1 + 1 + 1 := ⟨FU - 4, by omega⟩
  have sl : slen 1 = 3 := by decide
  have sN : slenN 1 = 3 := by decide
  have s0 : sch 1 0 = 60 := by decide
  have s1 : sch 1 1 = 62 := by decide
  have s2 : sch 1 2 = 61 := by decide
  rw [e_X10_takesOf, hw, e_X10_takesOf_2]
  by_cases c : a < m
  · obtain ⟨g1, g2⟩ := h5 a c
    generalize hc : f a = c1 at g1 g2 ⊢
    by_cases z0 : c1 = 60
    · rw [if_pos ⟨c, z0⟩]
      simp (disch := omega) only [↓reduceIte, ic_t, ic_f, not_true_eq_false, not_false_eq_true, ↓lt_v, rdR, rdE, rdS, leT, leTc, leTd, leF, leFc, leFd, ltT, ltTc, ltTd, ltF, ltFc, ltFd, eqT, eqTc, eqTd, eqF, eqFc, eqFd, m1T, m1F, m1T', m1F', inb_nI, ix_nI, inb_c, ix_c, nI_1, nI_pred, nI_m1, add_nIc, add_cnI, bd_v, reduceCtorEq, eqFcc, m1e0, m1e1, m1l0, m1g0, m2l0, m2g0, Int32.reduceLT, Int32.reduceLE, Int32.reduceAdd, Int32.reduceSub, Int32.reduceMul, eq_self, Bool.false_eq_true, h1, h2, sl, sN, g2, s0]
    · rw [if_neg (fun q => z0 q.2)]
      simp (disch := omega) only [↓reduceIte, ic_t, ic_f, not_true_eq_false, not_false_eq_true, ↓lt_v, rdR, rdE, rdS, leT, leTc, leTd, leF, leFc, leFd, ltT, ltTc, ltTd, ltF, ltFc, ltFd, eqT, eqTc, eqTd, eqF, eqFc, eqFd, m1T, m1F, m1T', m1F', inb_nI, ix_nI, inb_c, ix_c, nI_1, nI_pred, nI_m1, add_nIc, add_cnI, bd_v, reduceCtorEq, eqFcc, m1e0, m1e1, m1l0, m1g0, m2l0, m2g0, Int32.reduceLT, Int32.reduceLE, Int32.reduceAdd, Int32.reduceSub, Int32.reduceMul, eq_self, Bool.false_eq_true, h1, h2, sl, sN, g2, s0]
      rw [e_X10_takesOf_2]
      by_cases z1 : c1 = 62
      · rw [if_pos ⟨c, z1⟩]
        simp (disch := omega) only [↓reduceIte, ic_t, ic_f, not_true_eq_false, not_false_eq_true, ↓lt_v, rdR, rdE, rdS, leT, leTc, leTd, leF, leFc, leFd, ltT, ltTc, ltTd, ltF, ltFc, ltFd, eqT, eqTc, eqTd, eqF, eqFc, eqFd, m1T, m1F, m1T', m1F', inb_nI, ix_nI, inb_c, ix_c, nI_1, nI_pred, nI_m1, add_nIc, add_cnI, bd_v, reduceCtorEq, eqFcc, m1e0, m1e1, m1l0, m1g0, m2l0, m2g0, Int32.reduceLT, Int32.reduceLE, Int32.reduceAdd, Int32.reduceSub, Int32.reduceMul, eq_self, Bool.false_eq_true, h1, h2, sl, sN, g2, s1]
      · rw [if_neg (fun q => z1 q.2)]
        simp (disch := omega) only [↓reduceIte, ic_t, ic_f, not_true_eq_false, not_false_eq_true, ↓lt_v, rdR, rdE, rdS, leT, leTc, leTd, leF, leFc, leFd, ltT, ltTc, ltTd, ltF, ltFc, ltFd, eqT, eqTc, eqTd, eqF, eqFc, eqFd, m1T, m1F, m1T', m1F', inb_nI, ix_nI, inb_c, ix_c, nI_1, nI_pred, nI_m1, add_nIc, add_cnI, bd_v, reduceCtorEq, eqFcc, m1e0, m1e1, m1l0, m1g0, m2l0, m2g0, Int32.reduceLT, Int32.reduceLE, Int32.reduceAdd, Int32.reduceSub, Int32.reduceMul, eq_self, Bool.false_eq_true, h1, h2, sl, sN, g2, s1]
        rw [e_X10_takesOf_2]
        by_cases z2 : c1 = 61
        · rw [if_pos ⟨c, z2⟩]
          simp (disch := omega) only [↓reduceIte, ic_t, ic_f, not_true_eq_false, not_false_eq_true, ↓lt_v, rdR, rdE, rdS, leT, leTc, leTd, leF, leFc, leFd, ltT, ltTc, ltTd, ltF, ltFc, ltFd, eqT, eqTc, eqTd, eqF, eqFc, eqFd, m1T, m1F, m1T', m1F', inb_nI, ix_nI, inb_c, ix_c, nI_1, nI_pred, nI_m1, add_nIc, add_cnI, bd_v, reduceCtorEq, eqFcc, m1e0, m1e1, m1l0, m1g0, m2l0, m2g0, Int32.reduceLT, Int32.reduceLE, Int32.reduceAdd, Int32.reduceSub, Int32.reduceMul, eq_self, Bool.false_eq_true, h1, h2, sl, sN, g2, s2]
        · rw [if_neg (fun q => z2 q.2)]
          simp (disch := omega) only [↓reduceIte, ic_t, ic_f, not_true_eq_false, not_false_eq_true, ↓lt_v, rdR, rdE, rdS, leT, leTc, leTd, leF, leFc, leFd, ltT, ltTc, ltTd, ltF, ltFc, ltFd, eqT, eqTc, eqTd, eqF, eqFc, eqFd, m1T, m1F, m1T', m1F', inb_nI, ix_nI, inb_c, ix_c, nI_1, nI_pred, nI_m1, add_nIc, add_cnI, bd_v, reduceCtorEq, eqFcc, m1e0, m1e1, m1l0, m1g0, m2l0, m2g0, Int32.reduceLT, Int32.reduceLE, Int32.reduceAdd, Int32.reduceSub, Int32.reduceMul, eq_self, Bool.false_eq_true, h1, h2, sl, sN, g2, s2]
          rw [e_X10_takesOf_2]
          simp (disch := omega) only [↓reduceIte, ic_t, ic_f, not_true_eq_false, not_false_eq_true, ↓lt_v, rdR, rdE, rdS, leT, leTc, leTd, leF, leFc, leFd, ltT, ltTc, ltTd, ltF, ltFc, ltFd, eqT, eqTc, eqTd, eqF, eqFc, eqFd, m1T, m1F, m1T', m1F', inb_nI, ix_nI, inb_c, ix_c, nI_1, nI_pred, nI_m1, add_nIc, add_cnI, bd_v, reduceCtorEq, eqFcc, m1e0, m1e1, m1l0, m1g0, m2l0, m2g0, Int32.reduceLT, Int32.reduceLE, Int32.reduceAdd, Int32.reduceSub, Int32.reduceMul, eq_self, Bool.false_eq_true, sl]
  · rw [if_neg (fun q => c q.1), if_neg (fun q => c q.1), if_neg (fun q => c q.1)]
    simp (disch := omega) only [↓reduceIte, ic_t, ic_f, not_true_eq_false, not_false_eq_true, ↓lt_v, rdR, rdE, rdS, leT, leTc, leTd, leF, leFc, leFd, ltT, ltTc, ltTd, ltF, ltFc, ltFd, eqT, eqTc, eqTd, eqF, eqFc, eqFd, m1T, m1F, m1T', m1F', inb_nI, ix_nI, inb_c, ix_c, nI_1, nI_pred, nI_m1, add_nIc, add_cnI, bd_v, reduceCtorEq, eqFcc, m1e0, m1e1, m1l0, m1g0, m2l0, m2g0, Int32.reduceLT, Int32.reduceLE, Int32.reduceAdd, Int32.reduceSub, Int32.reduceMul, eq_self, Bool.false_eq_true, h1, h2, sl]
theorem r_takesOf2 {M : Mem} {a m j c0 c1 : Nat} {f : Nat → Nat} (hc : (j = 2 ∧ c0 = 43 ∧ c1 = 45) ∨ (j = 3 ∧ c0 = 42 ∧ c1 = 47)) (h : AtR a m f M) : fX10_takesOf j M = if a < m ∧ f a = c0 then some (0, sI M 169 9 (nI (a + 1))) else if a < m ∧ f a = c1 then some (1, sI M 169 9 (nI (a + 1))) else some (-1, M) := by
  obtain ⟨h1, h2, h3, h4, h5⟩ := h
  have hFU : 2000 < FU := FU_big
  obtain ⟨w, hw⟩ : ∃ w, FU = w + 1 + 1 + 1 := ⟨FU - 3, by omega⟩
  have key : slen j = 2 ∧ slenN j = 2 ∧ sch j 0 = nI c0 ∧ sch j 1 = nI c1 ∧ c0 < 100 ∧ c1 < 100 ∧ c0 ≠ c1 := by
    rcases hc with ⟨e1, e2, e3⟩ | ⟨e1, e2, e3⟩ <;> subst e1 <;> subst e2 <;> subst e3 <;> decide
  obtain ⟨sl, sN, s0, s1, l0, l1, ne⟩ := key
  rw [e_X10_takesOf, hw, e_X10_takesOf_2]
  by_cases c : a < m
  · obtain ⟨g1, g2⟩ := h5 a c
    generalize hc : f a = cc at g1 g2 ⊢
    by_cases z0 : cc = c0
    · rw [if_pos ⟨c, z0⟩]
      simp (disch := omega) only [↓reduceIte, ic_t, ic_f, not_true_eq_false, not_false_eq_true, ↓lt_v, rdR, rdE, rdS, leT, leTc, leTd, leF, leFc, leFd, ltT, ltTc, ltTd, ltF, ltFc, ltFd, eqT, eqTc, eqTd, eqF, eqFc, eqFd, m1T, m1F, m1T', m1F', inb_nI, ix_nI, inb_c, ix_c, nI_1, nI_pred, nI_m1, add_nIc, add_cnI, bd_v, reduceCtorEq, eqFcc, m1e0, m1e1, m1l0, m1g0, m2l0, m2g0, Int32.reduceLT, Int32.reduceLE, Int32.reduceAdd, Int32.reduceSub, Int32.reduceMul, eq_self, Bool.false_eq_true, h1, h2, sl, sN, g2, s0]
    · rw [if_neg (fun q => z0 q.2)]
      simp (disch := omega) only [↓reduceIte, ic_t, ic_f, not_true_eq_false, not_false_eq_true, ↓lt_v, rdR, rdE, rdS, leT, leTc, leTd, leF, leFc, leFd, ltT, ltTc, ltTd, ltF, ltFc, ltFd, eqT, eqTc, eqTd, eqF, eqFc, eqFd, m1T, m1F, m1T', m1F', inb_nI, ix_nI, inb_c, ix_c, nI_1, nI_pred, nI_m1, add_nIc, add_cnI, bd_v, reduceCtorEq, eqFcc, m1e0, m1e1, m1l0, m1g0, m2l0, m2g0, Int32.reduceLT, Int32.reduceLE, Int32.reduceAdd, Int32.reduceSub, Int32.reduceMul, eq_self, Bool.false_eq_true, h1, h2, sl, sN, g2, s0]
      rw [e_X10_takesOf_2]
      by_cases z1 : cc = c1
      · rw [if_pos ⟨c, z1⟩]
        simp (disch := omega) only [↓reduceIte, ic_t, ic_f, not_true_eq_false, not_false_eq_true, ↓lt_v, rdR, rdE, rdS, leT, leTc, leTd, leF, leFc, leFd, ltT, ltTc, ltTd, ltF, ltFc, ltFd, eqT, eqTc, eqTd, eqF, eqFc, eqFd, m1T, m1F, m1T', m1F', inb_nI, ix_nI, inb_c, ix_c, nI_1, nI_pred, nI_m1, add_nIc, add_cnI, bd_v, reduceCtorEq, eqFcc, m1e0, m1e1, m1l0, m1g0, m2l0, m2g0, Int32.reduceLT, Int32.reduceLE, Int32.reduceAdd, Int32.reduceSub, Int32.reduceMul, eq_self, Bool.false_eq_true, h1, h2, sl, sN, g2, s1]
      · rw [if_neg (fun q => z1 q.2)]
        simp (disch := omega) only [↓reduceIte, ic_t, ic_f, not_true_eq_false, not_false_eq_true, ↓lt_v, rdR, rdE, rdS, leT, leTc, leTd, leF, leFc, leFd, ltT, ltTc, ltTd, ltF, ltFc, ltFd, eqT, eqTc, eqTd, eqF, eqFc, eqFd, m1T, m1F, m1T', m1F', inb_nI, ix_nI, inb_c, ix_c, nI_1, nI_pred, nI_m1, add_nIc, add_cnI, bd_v, reduceCtorEq, eqFcc, m1e0, m1e1, m1l0, m1g0, m2l0, m2g0, Int32.reduceLT, Int32.reduceLE, Int32.reduceAdd, Int32.reduceSub, Int32.reduceMul, eq_self, Bool.false_eq_true, h1, h2, sl, sN, g2, s1]
        rw [e_X10_takesOf_2]
        simp (disch := omega) only [↓reduceIte, ic_t, ic_f, not_true_eq_false, not_false_eq_true, ↓lt_v, rdR, rdE, rdS, leT, leTc, leTd, leF, leFc, leFd, ltT, ltTc, ltTd, ltF, ltFc, ltFd, eqT, eqTc, eqTd, eqF, eqFc, eqFd, m1T, m1F, m1T', m1F', inb_nI, ix_nI, inb_c, ix_c, nI_1, nI_pred, nI_m1, add_nIc, add_cnI, bd_v, reduceCtorEq, eqFcc, m1e0, m1e1, m1l0, m1g0, m2l0, m2g0, Int32.reduceLT, Int32.reduceLE, Int32.reduceAdd, Int32.reduceSub, Int32.reduceMul, eq_self, Bool.false_eq_true, sl]
  · rw [if_neg (fun q => c q.1), if_neg (fun q => c q.1)]
    simp (disch := omega) only [↓reduceIte, ic_t, ic_f, not_true_eq_false, not_false_eq_true, ↓lt_v, rdR, rdE, rdS, leT, leTc, leTd, leF, leFc, leFd, ltT, ltTc, ltTd, ltF, ltFc, ltFd, eqT, eqTc, eqTd, eqF, eqFc, eqFd, m1T, m1F, m1T', m1F', inb_nI, ix_nI, inb_c, ix_c, nI_1, nI_pred, nI_m1, add_nIc, add_cnI, bd_v, reduceCtorEq, eqFcc, m1e0, m1e1, m1l0, m1g0, m2l0, m2g0, Int32.reduceLT, Int32.reduceLE, Int32.reduceAdd, Int32.reduceSub, Int32.reduceMul, eq_self, Bool.false_eq_true, h1, h2, sl]
theorem pk_isD {c : Nat} (h : c < 256) : isD c = true ↔ 48 ≤ c ∧ c ≤ 57 := by
  constructor
  · intro q; have := isD_i q; omega
  · intro q; exact isD_t (by omega)
/-- both read a number's signs -/
theorem p_num {a0 L : Nat} {f : Nat → Nat} (hR : a0 = 146 ∨ a0 = 150) (hf : ∀ i, i < L → f i < 256) : ∀ r i q x, i + r = 3 → x < 10 ^ i → q ≤ min L 40 → ∃ e x', q ≤ e ∧ e ≤ min L 40 ∧ x' < 1000 ∧ (q < min L 40 → 0 < r → isD (f q) = true → q < e) ∧ ((¬ (q < min L 40 ∧ isD (f q) = true)) → e = q) ∧
    (∀ (M : Mem) (cl : Nat) (b : Bool) (fu : Nat) (Q : Int32 × Mem → Prop), r + 1 ≤ fu → CSt a0 L f q cl b M → (∀ M', CSt a0 L f e cl b M' → Fr (fun a => a = a0) M M' → Ok (fX6_readThing_125 a0 (nI x') (nI (i + (e - q))) M') Q) → Ok (fX6_readThing_69 fu a0 (nI x) (nI i) (nI i) M) Q) ∧
    (∀ (s : Mem) (fu : Nat), r + 1 ≤ fu → AtR q (min L 40) f s → Ok (fX10_number_13 fu 3 (nI x) (nI i) s) (fun w => w.1 = nI x' ∧ AtR e (min L 40) f w.2 ∧ FrR (fun _ => False) (fun j => j = 9) s w.2)) := by
  intro r
  induction r with
  | zero =>
    intro i q x hi hx hq
    have hi : i = 3 := hi
    subst hi
    refine ⟨q, x, Nat.le_refl _, hq, hx, fun _ q => by omega, fun _ => rfl, fun M cl b fu Q hfu hc kk => ?_, fun s fu hfu hA => ?_⟩
    · obtain ⟨fu, rfl⟩ : ∃ m, fu = m + 1 := ⟨fu - 1, by omega⟩
      rw [e_X6_readThing_69]
      simp (disch := omega) only [↓reduceIte, ic_t, ic_f, not_true_eq_false, not_false_eq_true, ↓lt_v, rdR, rdE, rdS, leT, leTc, leTd, leF, leFc, leFd, ltT, ltTc, ltTd, ltF, ltFc, ltFd, eqT, eqTc, eqTd, eqF, eqFc, eqFd, m1T, m1F, m1T', m1F', inb_nI, ix_nI, inb_c, ix_c, nI_1, nI_pred, nI_m1, add_nIc, add_cnI, bd_v, reduceCtorEq, eqFcc, m1e0, m1e1, m1l0, m1g0, m2l0, m2g0, Int32.reduceLT, Int32.reduceLE, Int32.reduceAdd, Int32.reduceSub, Int32.reduceMul, eq_self, Bool.false_eq_true]
      have := kk M hc fr_rfl
      rw [show 3 + (q - q) = 3 by omega] at this
      exact this
    · obtain ⟨fu, rfl⟩ : ∃ m, fu = m + 1 := ⟨fu - 1, by omega⟩
      rw [e_X10_number_13]
      simp (disch := omega) only [↓reduceIte, ic_t, ic_f, not_true_eq_false, not_false_eq_true, ↓lt_v, rdR, rdE, rdS, leT, leTc, leTd, leF, leFc, leFd, ltT, ltTc, ltTd, ltF, ltFc, ltFd, eqT, eqTc, eqTd, eqF, eqFc, eqFd, m1T, m1F, m1T', m1F', inb_nI, ix_nI, inb_c, ix_c, nI_1, nI_pred, nI_m1, add_nIc, add_cnI, bd_v, reduceCtorEq, eqFcc, m1e0, m1e1, m1l0, m1g0, m2l0, m2g0, Int32.reduceLT, Int32.reduceLE, Int32.reduceAdd, Int32.reduceSub, Int32.reduceMul, eq_self, Bool.false_eq_true]
      exact ok_some ⟨rfl, hA, frR_rfl⟩
  | succ r ih =>
    intro i q x hi hx hq
    have hi3 : i < 3 := by omega
    have hx3 : x < 100 := by
      have : 10 ^ i ≤ 10 ^ 2 := Nat.pow_le_pow_right (by omega) (by omega)
      omega
    by_cases c : q < min L 40 ∧ isD (f q) = true
    · have hc256 := hf q (by omega)
      have hd := (pk_isD hc256).1 c.2
      have ep : 10 ^ (i + 1) = 10 ^ i * 10 := rfl
      obtain ⟨e, x', e1, e2, e3, e4, e5, hC, hN⟩ := ih (i + 1) (q + 1) (x * 10 + f q - 48) (by omega) (by omega) (by omega)
      refine ⟨e, x', by omega, e2, e3, fun _ _ _ => by omega, fun h => absurd c h, fun M cl b fu Q hfu hc kk => ?_, fun s fu hfu hA => ?_⟩
      · obtain ⟨fu, rfl⟩ : ∃ m, fu = m + 1 := ⟨fu - 1, by omega⟩
        have pk := c_peek hc (by omega)
        rw [if_pos c.1] at pk
        have h6 := hc.1
        rw [e_X6_readThing_69]
        have ev : nI x * 10 + nI (f q) - 48 = nI (x * 10 + f q - 48) := by rw [show (10 : Int32) = nI 10 from rfl, pk_mul, nI_add, sub_nIc (by omega)]
        simp (disch := omega) only [↓reduceIte, ic_t, ic_f, not_true_eq_false, not_false_eq_true, ↓lt_v, rdR, rdE, rdS, leT, leTc, leTd, leF, leFc, leFd, ltT, ltTc, ltTd, ltF, ltFc, ltFd, eqT, eqTc, eqTd, eqF, eqFc, eqFd, m1T, m1F, m1T', m1F', inb_nI, ix_nI, inb_c, ix_c, nI_1, nI_pred, nI_m1, add_nIc, add_cnI, bd_v, reduceCtorEq, eqFcc, m1e0, m1e1, m1l0, m1g0, m2l0, m2g0, Int32.reduceLT, Int32.reduceLE, Int32.reduceAdd, Int32.reduceSub, Int32.reduceMul, eq_self, Bool.false_eq_true, pk, ev, h6]
        refine hC _ cl b fu Q (by omega) (cst_pos hR hc) (fun M' m1 m2 => ?_)
        have := kk M' m1 (fr_trans (fr_sI rfl) m2)
        rw [show i + (e - q) = i + 1 + (e - (q + 1)) by omega] at this
        exact this
      · obtain ⟨fu, rfl⟩ : ∃ m, fu = m + 1 := ⟨fu - 1, by omega⟩
        have hdg := r_isDigit hA
        rw [decide_eq_true c.1, c.2] at hdg
        have h9 := hA.1
        have ht := (hA.2.2.2.2 q c.1).2
        have b1 : bI (true && true) = 1 := rfl
        rw [b1] at hdg
        have ev : 10 * nI x + nI (f q) - 48 = nI (x * 10 + f q - 48) := by rw [show (10 : Int32) = nI 10 from rfl, pk_mul, Nat.mul_comm, nI_add, sub_nIc (by omega)]
        rw [e_X10_number_13]
        simp (disch := omega) only [↓reduceIte, ic_t, ic_f, not_true_eq_false, not_false_eq_true, ↓lt_v, rdR, rdE, rdS, leT, leTc, leTd, leF, leFc, leFd, ltT, ltTc, ltTd, ltF, ltFc, ltFd, eqT, eqTc, eqTd, eqF, eqFc, eqFd, m1T, m1F, m1T', m1F', inb_nI, ix_nI, inb_c, ix_c, nI_1, nI_pred, nI_m1, add_nIc, add_cnI, bd_v, reduceCtorEq, eqFcc, m1e0, m1e1, m1l0, m1g0, m2l0, m2g0, Int32.reduceLT, Int32.reduceLE, Int32.reduceAdd, Int32.reduceSub, Int32.reduceMul, eq_self, Bool.false_eq_true, hdg, h9, ht, ev]
        refine ok_mono (hN _ fu (by omega) (atR_set hA (by omega))) (fun w g => ⟨g.1, g.2.1, frR_trans (frR_sI (by omega) (by omega)) g.2.2⟩)
    · refine ⟨q, x, Nat.le_refl _, hq, by omega, fun h1 h2 h3 => absurd ⟨h1, h3⟩ c, fun _ => rfl, fun M cl b fu Q hfu hc kk => ?_, fun s fu hfu hA => ?_⟩
      · obtain ⟨fu, rfl⟩ : ∃ m, fu = m + 1 := ⟨fu - 1, by omega⟩
        have pk := c_peek hc (by omega)
        have := kk M hc fr_rfl
        rw [show i + (q - q) = i by omega] at this
        rw [e_X6_readThing_69]
        by_cases c1 : q < min L 40
        · rw [if_pos c1] at pk
          have hc256 := hf q (by omega)
          have nd : ¬ (48 ≤ f q ∧ f q ≤ 57) := fun h => c ⟨c1, (pk_isD hc256).2 h⟩
          by_cases c2 : f q < 48
          · simp (disch := omega) only [↓reduceIte, ic_t, ic_f, not_true_eq_false, not_false_eq_true, ↓lt_v, rdR, rdE, rdS, leT, leTc, leTd, leF, leFc, leFd, ltT, ltTc, ltTd, ltF, ltFc, ltFd, eqT, eqTc, eqTd, eqF, eqFc, eqFd, m1T, m1F, m1T', m1F', inb_nI, ix_nI, inb_c, ix_c, nI_1, nI_pred, nI_m1, add_nIc, add_cnI, bd_v, reduceCtorEq, eqFcc, m1e0, m1e1, m1l0, m1g0, m2l0, m2g0, Int32.reduceLT, Int32.reduceLE, Int32.reduceAdd, Int32.reduceSub, Int32.reduceMul, eq_self, Bool.false_eq_true, pk]; exact this
          · simp (disch := omega) only [↓reduceIte, ic_t, ic_f, not_true_eq_false, not_false_eq_true, ↓lt_v, rdR, rdE, rdS, leT, leTc, leTd, leF, leFc, leFd, ltT, ltTc, ltTd, ltF, ltFc, ltFd, eqT, eqTc, eqTd, eqF, eqFc, eqFd, m1T, m1F, m1T', m1F', inb_nI, ix_nI, inb_c, ix_c, nI_1, nI_pred, nI_m1, add_nIc, add_cnI, bd_v, reduceCtorEq, eqFcc, m1e0, m1e1, m1l0, m1g0, m2l0, m2g0, Int32.reduceLT, Int32.reduceLE, Int32.reduceAdd, Int32.reduceSub, Int32.reduceMul, eq_self, Bool.false_eq_true, pk]; exact this
        · rw [if_neg c1] at pk
          have n1 : ((-1 : Int32) < 48) = True := by decide
          simp (disch := omega) only [↓reduceIte, ic_t, ic_f, not_true_eq_false, not_false_eq_true, ↓lt_v, rdR, rdE, rdS, leT, leTc, leTd, leF, leFc, leFd, ltT, ltTc, ltTd, ltF, ltFc, ltFd, eqT, eqTc, eqTd, eqF, eqFc, eqFd, m1T, m1F, m1T', m1F', inb_nI, ix_nI, inb_c, ix_c, nI_1, nI_pred, nI_m1, add_nIc, add_cnI, bd_v, reduceCtorEq, eqFcc, m1e0, m1e1, m1l0, m1g0, m2l0, m2g0, Int32.reduceLT, Int32.reduceLE, Int32.reduceAdd, Int32.reduceSub, Int32.reduceMul, eq_self, Bool.false_eq_true, pk, n1]
          exact this
      · obtain ⟨fu, rfl⟩ : ∃ m, fu = m + 1 := ⟨fu - 1, by omega⟩
        have hdg := r_isDigit hA
        have : (decide (q < min L 40) && isD (f q)) = false := by
          cases h : (decide (q < min L 40) && isD (f q))
          · rfl
          · rw [Bool.and_eq_true] at h
            exact absurd ⟨of_decide_eq_true h.1, h.2⟩ c
        have b0 : bI false = 0 := rfl
        rw [this, b0] at hdg
        rw [e_X10_number_13]
        simp (disch := omega) only [↓reduceIte, ic_t, ic_f, not_true_eq_false, not_false_eq_true, ↓lt_v, rdR, rdE, rdS, leT, leTc, leTd, leF, leFc, leFd, ltT, ltTc, ltTd, ltF, ltFc, ltFd, eqT, eqTc, eqTd, eqF, eqFc, eqFd, m1T, m1F, m1T', m1F', inb_nI, ix_nI, inb_c, ix_c, nI_1, nI_pred, nI_m1, add_nIc, add_cnI, bd_v, reduceCtorEq, eqFcc, m1e0, m1e1, m1l0, m1g0, m2l0, m2g0, Int32.reduceLT, Int32.reduceLE, Int32.reduceAdd, Int32.reduceSub, Int32.reduceMul, eq_self, Bool.false_eq_true, hdg]
        exact ok_some ⟨rfl, hA, frR_rfl⟩
