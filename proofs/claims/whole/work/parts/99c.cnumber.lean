/-! PURE: class: the number of an order; lawful sets -/
theorem hF_lt {n : Nat} {o : Nat → Nat} (hn : n ≤ 6) : ∀ k, hF n o k < 64
  | 0 => (bt_all n hn).2.1
  | k + 1 => Nat.lt_of_le_of_lt Nat.and_le_left (hF_lt hn k)
theorem c_numberOf {M : Mem} {n a : Nat} {o : Nat → Nat} (hn : n ≤ 6) (ho : Prm n o) (hl : ln a = 6) (e0 : M.1 115 0 = nI n) (e1 : M.1 115 1 = nI (fac n)) (hr : ∀ k, k < n → M.1 a k = nI (o k)) : fX1_numberOf a M = some (nI (lh n o n), M) := by
  have hFU : 2000 < FU := FU_big
  have hlt := lh_fac (o := o) hn
  have hf := fac_le hn
  have go : ∀ k, k ≤ n → fX1_numberOf a M = fX1_numberOf_14 (FU - k) a (nI (hN n o k)) (nI (hF n o k)) (nI k) M := by
    intro k
    induction k with
    | zero =>
      intro _
      rw [e_X1_numberOf]
      simp (disch := omega) only [↓reduceIte, ic_t, ic_f, not_true_eq_false, not_false_eq_true, ↓lt_v, leT, leTc, leTd, leF, leFc, leFd, ltT, ltTc, ltTd, ltF, ltFc, ltFd, eqT, eqTc, eqTd, eqF, eqFc, eqFd, m1T, m1F, m1T', m1F', inb_nI, ix_nI, inb_c, ix_c, nI_1, nI_pred, nI_m1, add_nIc, add_cnI, bd_v, reduceCtorEq, eqFcc, m1e0, m1e1, m1l0, m1g0, m2l0, m2g0, Int32.reduceLT, Int32.reduceLE, Int32.reduceAdd, Int32.reduceSub, Int32.reduceMul, eq_self, Bool.false_eq_true, e0, (bt_all n hn).1]
      rfl
    | succ k ih =>
      intro hk
      have ok := ho.1 k (by omega)
      obtain ⟨p1, p2, p3⟩ := bt_pow (o k) (by omega)
      have f1 := hF_lt (o := o) hn k
      have hr1 := hr k (by omega)
      obtain ⟨a1, a2⟩ := bt_and _ f1 (2 ^ o k - 1) (by omega)
      have b1 := bc_64 _ a2 M
      have ebit : nI (hF n o k) &&& (nI (2 ^ o k) ^^^ (-1)) = nI (hF n o (k + 1)) := ((bt_not _ f1 _ p2).1).1
      have em : nI (2 ^ o k) - 1 = nI (2 ^ o k - 1) := by rw [sub_nIc (by omega)]
      have e6 : Int32.ofNat 6 = nI 6 := rfl
      have eh : nI (hN n o k) * nI (n - k) + nI (hcn n o k) = nI (hN n o (k + 1)) := by rw [pk_mul, nI_add]; rfl
      have ec : cnt (fun b => (hF n o k &&& (2 ^ o k - 1)).testBit b) 6 = hcn n o k := rfl
      rw [ih (by omega), show FU - k = (FU - (k + 1)) + 1 by omega, e_X1_numberOf_14, hl, e6]
      simp (disch := omega) only [↓reduceIte, ic_t, ic_f, not_true_eq_false, not_false_eq_true, ↓lt_v, leT, leTc, leTd, leF, leFc, leFd, ltT, ltTc, ltTd, ltF, ltFc, ltFd, eqT, eqTc, eqTd, eqF, eqFc, eqFd, m1T, m1F, m1T', m1F', inb_nI, ix_nI, inb_c, ix_c, nI_1, nI_pred, nI_m1, add_nIc, add_cnI, bd_v, reduceCtorEq, eqFcc, m1e0, m1e1, m1l0, m1g0, m2l0, m2g0, Int32.reduceLT, Int32.reduceLE, Int32.reduceAdd, Int32.reduceSub, Int32.reduceMul, eq_self, Bool.false_eq_true, e0, hr1, p1, em, a1, b1, ec, ebit, pk_sub, eh]
  have eN : hN n o n = lh n o n := by
    have := hN_lh hn ho n (Nat.le_refl _)
    rw [Nat.sub_self, show fac 0 = 1 from rfl, Nat.mul_one] at this
    exact this
  rw [go n (Nat.le_refl _), show FU - n = (FU - (n + 1)) + 1 by omega, e_X1_numberOf_14, eN]
  simp (disch := omega) only [↓reduceIte, ic_t, ic_f, not_true_eq_false, not_false_eq_true, ↓lt_v, leT, leTc, leTd, leF, leFc, leFd, ltT, ltTc, ltTd, ltF, ltFc, ltFd, eqT, eqTc, eqTd, eqF, eqFc, eqFd, m1T, m1F, m1T', m1F', inb_nI, ix_nI, inb_c, ix_c, nI_1, nI_pred, nI_m1, add_nIc, add_cnI, bd_v, reduceCtorEq, eqFcc, m1e0, m1e1, m1l0, m1g0, m2l0, m2g0, Int32.reduceLT, Int32.reduceLE, Int32.reduceAdd, Int32.reduceSub, Int32.reduceMul, eq_self, Bool.false_eq_true, e0, e_X1_numberOf_71, e1]
/-- the places between a pair are whole pairs -/
def fuB (o : Nat → Nat) (k : Nat) : Bool := allB (o k) (fun c => if k < c then (decide (o c ≠ c) && decide (k < o c) && decide (o c < o k)) else true)
def lawB (n : Nat) (o : Nat → Nat) : Bool := allB n (fun k => decide (o (o k) = k) && fuB o k)
theorem c_isFull {M : Mem} {n a k : Nat} {o : Nat → Nat} (hn : n ≤ 6) (ho : Prm n o) (hl : ln a = 6) (hr : ∀ k, k < n → M.1 a k = nI (o k)) (hk : k < n) : fX1_isFull a (nI k) (nI (o k)) M = some (bI (fuB o k), M) := by
  have hFU : 2000 < FU := FU_big
  have ok := ho.1 k hk
  have go : ∀ d c fu, c + d = max (k + 1) (o k) → k < c → d + 1 ≤ fu → (∀ i, i < c → i < o k → (if k < i then (decide (o i ≠ i) && decide (k < o i) && decide (o i < o k)) else true) = true) → fX1_isFull_4 fu a (nI k) (nI (o k)) (nI c) M = some (bI (fuB o k), M) := by
    intro d
    induction d with
    | zero =>
      intro c fu hc hk hfu hall
      obtain ⟨fu, rfl⟩ : ∃ m, fu = m + 1 := ⟨fu - 1, by omega⟩
      have : fuB o k = true := allB_m _ (fun i hi => hall i (by omega) hi)
      rw [e_X1_isFull_4, this, ic_pos (by rw [le_nI (by omega) (by omega)]; omega)]
      rfl
    | succ d ih =>
      intro c fu hc hkc hfu hall
      obtain ⟨fu, rfl⟩ : ∃ m, fu = m + 1 := ⟨fu - 1, by omega⟩
      by_cases cc : o k ≤ c
      · have : fuB o k = true := allB_m _ (fun i hi => hall i (by omega) hi)
        rw [e_X1_isFull_4, this]
        simp (disch := omega) only [↓reduceIte, ic_t, ic_f, not_true_eq_false, not_false_eq_true, ↓lt_v, leT, leTc, leTd, leF, leFc, leFd, ltT, ltTc, ltTd, ltF, ltFc, ltFd, eqT, eqTc, eqTd, eqF, eqFc, eqFd, m1T, m1F, m1T', m1F', inb_nI, ix_nI, inb_c, ix_c, nI_1, nI_pred, nI_m1, add_nIc, add_cnI, bd_v, reduceCtorEq, eqFcc, m1e0, m1e1, m1l0, m1g0, m2l0, m2g0, Int32.reduceLT, Int32.reduceLE, Int32.reduceAdd, Int32.reduceSub, Int32.reduceMul, eq_self, Bool.false_eq_true]
        rfl
      · have hr1 := hr c (by omega)
        have oc := ho.1 c (by omega)
        rw [e_X1_isFull_4, hl]
        have bad : ¬ (o c ≠ c ∧ k < o c ∧ o c < o k) → fuB o k = false := fun q => by
          cases h : fuB o k
          · rfl
          · have := allB_i _ h c (by omega)
            rw [if_pos hkc, Bool.and_eq_true, Bool.and_eq_true] at this
            exact absurd ⟨of_decide_eq_true this.1.1, of_decide_eq_true this.1.2, of_decide_eq_true this.2⟩ q
        by_cases c1 : o c = c
        · rw [bad (fun q => q.1 c1)]
          simp (disch := omega) only [↓reduceIte, ic_t, ic_f, not_true_eq_false, not_false_eq_true, ↓lt_v, leT, leTc, leTd, leF, leFc, leFd, ltT, ltTc, ltTd, ltF, ltFc, ltFd, eqT, eqTc, eqTd, eqF, eqFc, eqFd, m1T, m1F, m1T', m1F', inb_nI, ix_nI, inb_c, ix_c, nI_1, nI_pred, nI_m1, add_nIc, add_cnI, bd_v, reduceCtorEq, eqFcc, m1e0, m1e1, m1l0, m1g0, m2l0, m2g0, Int32.reduceLT, Int32.reduceLE, Int32.reduceAdd, Int32.reduceSub, Int32.reduceMul, eq_self, Bool.false_eq_true, hr1]
          rfl
        · by_cases c2 : k < o c
          · by_cases c3 : o c < o k
            · simp (disch := omega) only [↓reduceIte, ic_t, ic_f, not_true_eq_false, not_false_eq_true, ↓lt_v, leT, leTc, leTd, leF, leFc, leFd, ltT, ltTc, ltTd, ltF, ltFc, ltFd, eqT, eqTc, eqTd, eqF, eqFc, eqFd, m1T, m1F, m1T', m1F', inb_nI, ix_nI, inb_c, ix_c, nI_1, nI_pred, nI_m1, add_nIc, add_cnI, bd_v, reduceCtorEq, eqFcc, m1e0, m1e1, m1l0, m1g0, m2l0, m2g0, Int32.reduceLT, Int32.reduceLE, Int32.reduceAdd, Int32.reduceSub, Int32.reduceMul, eq_self, Bool.false_eq_true, hr1]
              refine ih (c + 1) fu (by omega) (by omega) (by omega) (fun i hi hi2 => ?_)
              by_cases e : i = c
              · subst e
                rw [if_pos hkc, decide_eq_true c1, decide_eq_true c2, decide_eq_true c3]
                rfl
              · exact hall i (by omega) hi2
            · rw [bad (fun q => c3 q.2.2)]
              simp (disch := omega) only [↓reduceIte, ic_t, ic_f, not_true_eq_false, not_false_eq_true, ↓lt_v, leT, leTc, leTd, leF, leFc, leFd, ltT, ltTc, ltTd, ltF, ltFc, ltFd, eqT, eqTc, eqTd, eqF, eqFc, eqFd, m1T, m1F, m1T', m1F', inb_nI, ix_nI, inb_c, ix_c, nI_1, nI_pred, nI_m1, add_nIc, add_cnI, bd_v, reduceCtorEq, eqFcc, m1e0, m1e1, m1l0, m1g0, m2l0, m2g0, Int32.reduceLT, Int32.reduceLE, Int32.reduceAdd, Int32.reduceSub, Int32.reduceMul, eq_self, Bool.false_eq_true, hr1]
              rfl
          · rw [bad (fun q => c2 q.2.1)]
            simp (disch := omega) only [↓reduceIte, ic_t, ic_f, not_true_eq_false, not_false_eq_true, ↓lt_v, leT, leTc, leTd, leF, leFc, leFd, ltT, ltTc, ltTd, ltF, ltFc, ltFd, eqT, eqTc, eqTd, eqF, eqFc, eqFd, m1T, m1F, m1T', m1F', inb_nI, ix_nI, inb_c, ix_c, nI_1, nI_pred, nI_m1, add_nIc, add_cnI, bd_v, reduceCtorEq, eqFcc, m1e0, m1e1, m1l0, m1g0, m2l0, m2g0, Int32.reduceLT, Int32.reduceLE, Int32.reduceAdd, Int32.reduceSub, Int32.reduceMul, eq_self, Bool.false_eq_true, hr1]
            rfl
  rw [e_X1_isFull]
  simp (disch := omega) only [↓reduceIte, ic_t, ic_f, not_true_eq_false, not_false_eq_true, ↓lt_v, leT, leTc, leTd, leF, leFc, leFd, ltT, ltTc, ltTd, ltF, ltFc, ltFd, eqT, eqTc, eqTd, eqF, eqFc, eqFd, m1T, m1F, m1T', m1F', inb_nI, ix_nI, inb_c, ix_c, nI_1, nI_pred, nI_m1, add_nIc, add_cnI, bd_v, reduceCtorEq, eqFcc, m1e0, m1e1, m1l0, m1g0, m2l0, m2g0, Int32.reduceLT, Int32.reduceLE, Int32.reduceAdd, Int32.reduceSub, Int32.reduceMul, eq_self, Bool.false_eq_true]
  exact go (max (k + 1) (o k) - (k + 1)) (k + 1) FU (by omega) (by omega) (by omega) (fun i hi hi2 => by rw [if_neg (by omega)])
theorem c_isLawful {M : Mem} {n a : Nat} {o : Nat → Nat} (hn : n ≤ 6) (ho : Prm n o) (hl : ln a = 6) (hr : ∀ k, k < n → M.1 a k = nI (o k)) : fX1_isLawful a (nI n) M = some (bI (lawB n o), M) := by
  have hFU : 2000 < FU := FU_big
  have go : ∀ d k fu, k + d = n → d + 1 ≤ fu → (∀ i, i < k → (decide (o (o i) = i) && fuB o i) = true) → fX1_isLawful_2 fu a (nI n) (nI k) M = some (bI (lawB n o), M) := by
    intro d
    induction d with
    | zero =>
      intro k fu hk hfu hall
      have hk : k = n := hk
      subst hk
      obtain ⟨fu, rfl⟩ : ∃ m, fu = m + 1 := ⟨fu - 1, by omega⟩
      have : lawB k o = true := allB_m _ hall
      rw [e_X1_isLawful_2, this]
      simp (disch := omega) only [↓reduceIte, ic_t, ic_f, not_true_eq_false, not_false_eq_true, ↓lt_v, leT, leTc, leTd, leF, leFc, leFd, ltT, ltTc, ltTd, ltF, ltFc, ltFd, eqT, eqTc, eqTd, eqF, eqFc, eqFd, m1T, m1F, m1T', m1F', inb_nI, ix_nI, inb_c, ix_c, nI_1, nI_pred, nI_m1, add_nIc, add_cnI, bd_v, reduceCtorEq, eqFcc, m1e0, m1e1, m1l0, m1g0, m2l0, m2g0, Int32.reduceLT, Int32.reduceLE, Int32.reduceAdd, Int32.reduceSub, Int32.reduceMul, eq_self, Bool.false_eq_true]
      rfl
    | succ d ih =>
      intro k fu hk hfu hall
      obtain ⟨fu, rfl⟩ : ∃ m, fu = m + 1 := ⟨fu - 1, by omega⟩
      have hr1 := hr k (by omega)
      have ok := ho.1 k (by omega)
      have hr2 := hr (o k) ok
      have ook := ho.1 (o k) ok
      have n0 : ¬ nI (o k) < 0 := by rw [show (0 : Int32) = nI 0 from rfl, lt_nI (by omega) (by omega)]; omega
      have bad : ¬ (decide (o (o k) = k) && fuB o k) = true → lawB n o = false := fun q => by
        cases h : lawB n o
        · rfl
        · exact absurd (allB_i _ h k (by omega)) q
      rw [e_X1_isLawful_2, hl]
      by_cases c1 : o (o k) = k
      · rw [decide_eq_true c1] at bad
        simp (disch := omega) only [↓reduceIte, ic_t, ic_f, not_true_eq_false, not_false_eq_true, ↓lt_v, leT, leTc, leTd, leF, leFc, leFd, ltT, ltTc, ltTd, ltF, ltFc, ltFd, eqT, eqTc, eqTd, eqF, eqFc, eqFd, m1T, m1F, m1T', m1F', inb_nI, ix_nI, inb_c, ix_c, nI_1, nI_pred, nI_m1, add_nIc, add_cnI, bd_v, reduceCtorEq, eqFcc, m1e0, m1e1, m1l0, m1g0, m2l0, m2g0, Int32.reduceLT, Int32.reduceLE, Int32.reduceAdd, Int32.reduceSub, Int32.reduceMul, eq_self, Bool.false_eq_true, hr1, hr2, n0]
        rw [c_isFull hn ho hl hr (by omega)]
        cases c2 : fuB o k
        · rw [bad (by rw [c2]; decide)]
          simp (disch := omega) only [↓reduceIte, ic_t, ic_f, not_true_eq_false, not_false_eq_true, ↓lt_v, leT, leTc, leTd, leF, leFc, leFd, ltT, ltTc, ltTd, ltF, ltFc, ltFd, eqT, eqTc, eqTd, eqF, eqFc, eqFd, m1T, m1F, m1T', m1F', inb_nI, ix_nI, inb_c, ix_c, nI_1, nI_pred, nI_m1, add_nIc, add_cnI, bd_v, reduceCtorEq, eqFcc, m1e0, m1e1, m1l0, m1g0, m2l0, m2g0, Int32.reduceLT, Int32.reduceLE, Int32.reduceAdd, Int32.reduceSub, Int32.reduceMul, eq_self, Bool.false_eq_true, bI_0]
          rfl
        · simp (disch := omega) only [↓reduceIte, ic_t, ic_f, not_true_eq_false, not_false_eq_true, ↓lt_v, leT, leTc, leTd, leF, leFc, leFd, ltT, ltTc, ltTd, ltF, ltFc, ltFd, eqT, eqTc, eqTd, eqF, eqFc, eqFd, m1T, m1F, m1T', m1F', inb_nI, ix_nI, inb_c, ix_c, nI_1, nI_pred, nI_m1, add_nIc, add_cnI, bd_v, reduceCtorEq, eqFcc, m1e0, m1e1, m1l0, m1g0, m2l0, m2g0, Int32.reduceLT, Int32.reduceLE, Int32.reduceAdd, Int32.reduceSub, Int32.reduceMul, eq_self, Bool.false_eq_true, bI_0]
          refine ih (k + 1) fu (by omega) (by omega) (fun i hi => ?_)
          by_cases e : i = k
          · subst e
            rw [decide_eq_true c1, c2]
            rfl
          · exact hall i (by omega)
      · rw [bad (by rw [decide_eq_false c1]; simp)]
        simp (disch := omega) only [↓reduceIte, ic_t, ic_f, not_true_eq_false, not_false_eq_true, ↓lt_v, leT, leTc, leTd, leF, leFc, leFd, ltT, ltTc, ltTd, ltF, ltFc, ltFd, eqT, eqTc, eqTd, eqF, eqFc, eqFd, m1T, m1F, m1T', m1F', inb_nI, ix_nI, inb_c, ix_c, nI_1, nI_pred, nI_m1, add_nIc, add_cnI, bd_v, reduceCtorEq, eqFcc, m1e0, m1e1, m1l0, m1g0, m2l0, m2g0, Int32.reduceLT, Int32.reduceLE, Int32.reduceAdd, Int32.reduceSub, Int32.reduceMul, eq_self, Bool.false_eq_true, hr1, hr2, n0]
        rfl
  rw [e_X1_isLawful]
  exact go n 0 FU (by omega) (by omega) (fun i hi => absurd hi (Nat.not_lt_zero _))
def prs (n : Nat) (o : Nat → Nat) : Nat := sm n (fun k => if k < o k then 1 else 0)
theorem c_pairsOf {M : Mem} {n a : Nat} {o : Nat → Nat} (hn : n ≤ 6) (ho : Prm n o) (hl : ln a = 6) (hr : ∀ k, k < n → M.1 a k = nI (o k)) : fX1_pairsOf a (nI n) M = some (nI (prs n o), M) := by
  have hFU : 2000 < FU := FU_big
  have go : ∀ k, k ≤ n → fX1_pairsOf a (nI n) M = fX1_pairsOf_4 (FU - k) a (nI n) (nI (sm k (fun k => if k < o k then 1 else 0))) (nI k) M := by
    intro k
    induction k with
    | zero => intro _; rw [e_X1_pairsOf]; rfl
    | succ k ih =>
      intro hk
      have hr1 := hr k (by omega)
      have ok := ho.1 k (by omega)
      have es : sm (k + 1) (fun k => if k < o k then 1 else 0) = sm k (fun k => if k < o k then 1 else 0) + (if k < o k then 1 else 0) := rfl
      have z : ∀ x : Nat, nI x + 0 = nI x := fun x => Int32.add_zero _
      rw [ih (by omega), show FU - k = (FU - (k + 1)) + 1 by omega, e_X1_pairsOf_4, hl, es]
      by_cases c : k < o k
      · rw [if_pos c]
        simp (disch := omega) only [↓reduceIte, ic_t, ic_f, not_true_eq_false, not_false_eq_true, ↓lt_v, leT, leTc, leTd, leF, leFc, leFd, ltT, ltTc, ltTd, ltF, ltFc, ltFd, eqT, eqTc, eqTd, eqF, eqFc, eqFd, m1T, m1F, m1T', m1F', inb_nI, ix_nI, inb_c, ix_c, nI_1, nI_pred, nI_m1, add_nIc, add_cnI, bd_v, reduceCtorEq, eqFcc, m1e0, m1e1, m1l0, m1g0, m2l0, m2g0, Int32.reduceLT, Int32.reduceLE, Int32.reduceAdd, Int32.reduceSub, Int32.reduceMul, eq_self, Bool.false_eq_true, hr1]
      · rw [if_neg c]
        simp (disch := omega) only [↓reduceIte, ic_t, ic_f, not_true_eq_false, not_false_eq_true, ↓lt_v, leT, leTc, leTd, leF, leFc, leFd, ltT, ltTc, ltTd, ltF, ltFc, ltFd, eqT, eqTc, eqTd, eqF, eqFc, eqFd, m1T, m1F, m1T', m1F', inb_nI, ix_nI, inb_c, ix_c, nI_1, nI_pred, nI_m1, add_nIc, add_cnI, bd_v, reduceCtorEq, eqFcc, m1e0, m1e1, m1l0, m1g0, m2l0, m2g0, Int32.reduceLT, Int32.reduceLE, Int32.reduceAdd, Int32.reduceSub, Int32.reduceMul, eq_self, Bool.false_eq_true, hr1]
  rw [go n (Nat.le_refl _), show FU - n = (FU - (n + 1)) + 1 by omega, e_X1_pairsOf_4]
  simp (disch := omega) only [↓reduceIte, ic_t, ic_f, not_true_eq_false, not_false_eq_true, ↓lt_v, leT, leTc, leTd, leF, leFc, leFd, ltT, ltTc, ltTd, ltF, ltFc, ltFd, eqT, eqTc, eqTd, eqF, eqFc, eqFd, m1T, m1F, m1T', m1F', inb_nI, ix_nI, inb_c, ix_c, nI_1, nI_pred, nI_m1, add_nIc, add_cnI, bd_v, reduceCtorEq, eqFcc, m1e0, m1e1, m1l0, m1g0, m2l0, m2g0, Int32.reduceLT, Int32.reduceLE, Int32.reduceAdd, Int32.reduceSub, Int32.reduceMul, eq_self, Bool.false_eq_true]
  rfl
