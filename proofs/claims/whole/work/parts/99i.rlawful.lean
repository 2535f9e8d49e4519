/-! PURE: reference: lawful sets -/
def fuC (o : Nat → Nat) (k c : Nat) : Bool := if k < c then (decide (o c ≠ c) && decide (k < o c) && decide (o c < o k)) else true
theorem fuB_C (o : Nat → Nat) (k : Nat) : fuB o k = allB (o k) (fuC o k) := rfl
def fulB (n : Nat) (o : Nat → Nat) : Bool := allB n (fun k => fuB o k)
theorem t64 {x : Nat} (h : x < 2 ^ 31) : (nI x).toInt64.toInt = (x : Int) := by
  rw [Int32.toInt_toInt64, nI_toInt h]
theorem bI_and {a b : Bool} : (bI (a && b)) = if a = true then bI b else 0 := by cases a <;> rfl
theorem r_law17 {s : Mem} {n a k : Nat} {o : Nat → Nat} {b : Bool} {k4 : Nat → Int32 → Int32 → Mem → Option (Int32 × Mem)} (hn : n ≤ 6) (hl : ln a = 6) (hr : ∀ k, k < n → s.1 a k = nI (o k) ∧ o k < n) (hk : k < n) : ∀ d c fu, c + d = o k → k < c → d + 1 ≤ fu → fX10_isLawful_17 k4 fu a (bI (b && allB c (fuC o k))) (nI k) (nI c) s = k4 a (bI (b && fuB o k)) (nI (k + 1)) s := by
  obtain ⟨p1, p2⟩ := hr k hk
  intro d
  induction d with
  | zero =>
    intro c fu hc hkc hfu
    have hc : c = o k := hc
    obtain ⟨fu, rfl⟩ : ∃ m, fu = m + 1 := ⟨fu - 1, by omega⟩
    rw [e_X10_isLawful_17, fuB_C, hl, hc]
    simp (disch := omega) only [↓reduceIte, ic_t, ic_f, not_true_eq_false, not_false_eq_true, ↓lt_v, leT, leTc, leTd, leF, leFc, leFd, ltT, ltTc, ltTd, ltF, ltFc, ltFd, eqT, eqTc, eqTd, eqF, eqFc, eqFd, m1T, m1F, m1T', m1F', inb_nI, ix_nI, inb_c, ix_c, nI_1, nI_pred, nI_m1, add_nIc, add_cnI, bd_v, reduceCtorEq, eqFcc, m1e0, m1e1, m1l0, m1g0, m2l0, m2g0, Int32.reduceLT, Int32.reduceLE, Int32.reduceAdd, Int32.reduceSub, Int32.reduceMul, eq_self, Bool.false_eq_true, p1]
  | succ d ih =>
    intro c fu hc hkc hfu
    obtain ⟨fu, rfl⟩ : ∃ m, fu = m + 1 := ⟨fu - 1, by omega⟩
    obtain ⟨q1, q2⟩ := hr c (by omega)
    have ih := ih (c + 1) fu (by omega) (by omega) (by omega)
    have eA : allB (c + 1) (fuC o k) = (allB c (fuC o k) && fuC o k c) := rfl
    rw [eA] at ih
    have eC : fuC o k c = (decide (o c ≠ c) && decide (k < o c) && decide (o c < o k)) := if_pos hkc
    have hin : fX10_in (nI (o c)).toInt64 (nI (k + 1)).toInt64 (nI (o k - 1)).toInt64 s = some (bI (decide (k < o c) && decide (o c < o k)), s) := by
      rw [r_inI (lo := (k + 1 : Nat)) (hi := (o k - 1 : Nat)) (t64 (by omega)) (t64 (by omega)), nI_toInt (by omega)]
      by_cases c1 : k < o c
      · by_cases c2 : o c < o k
        · rw [if_pos (by omega), decide_eq_true c1, decide_eq_true c2]; rfl
        · rw [if_neg (by omega), decide_eq_true c1, decide_eq_false c2]; rfl
      · rw [if_neg (by omega), decide_eq_false c1]; rfl
    have em : nI (o k) - 1 = nI (o k - 1) := by rw [sub_nIc (by omega)]
    rw [← ih, e_X10_isLawful_17, hl]
    have b0 : bI false = 0 := rfl
    have b1 : bI true = 1 := rfl
    cases hx : (b && allB c (fuC o k))
    · have : (b && (allB c (fuC o k) && fuC o k c)) = false := by rw [← Bool.and_assoc, hx]; rfl
      rw [this]
      simp (disch := omega) only [↓reduceIte, ic_t, ic_f, not_true_eq_false, not_false_eq_true, ↓lt_v, leT, leTc, leTd, leF, leFc, leFd, ltT, ltTc, ltTd, ltF, ltFc, ltFd, eqT, eqTc, eqTd, eqF, eqFc, eqFd, m1T, m1F, m1T', m1F', inb_nI, ix_nI, inb_c, ix_c, nI_1, nI_pred, nI_m1, add_nIc, add_cnI, bd_v, reduceCtorEq, eqFcc, m1e0, m1e1, m1l0, m1g0, m2l0, m2g0, Int32.reduceLT, Int32.reduceLE, Int32.reduceAdd, Int32.reduceSub, Int32.reduceMul, eq_self, Bool.false_eq_true, p1, q1, b0]
    · have : (b && (allB c (fuC o k) && fuC o k c)) = fuC o k c := by rw [← Bool.and_assoc, hx]; rfl
      rw [this, eC]
      by_cases c0 : o c = c
      · rw [decide_eq_false (fun q => q c0), Bool.false_and, Bool.false_and]
        simp (disch := omega) only [↓reduceIte, ic_t, ic_f, not_true_eq_false, not_false_eq_true, ↓lt_v, leT, leTc, leTd, leF, leFc, leFd, ltT, ltTc, ltTd, ltF, ltFc, ltFd, eqT, eqTc, eqTd, eqF, eqFc, eqFd, m1T, m1F, m1T', m1F', inb_nI, ix_nI, inb_c, ix_c, nI_1, nI_pred, nI_m1, add_nIc, add_cnI, bd_v, reduceCtorEq, eqFcc, m1e0, m1e1, m1l0, m1g0, m2l0, m2g0, Int32.reduceLT, Int32.reduceLE, Int32.reduceAdd, Int32.reduceSub, Int32.reduceMul, eq_self, Bool.false_eq_true, p1, q1, b0, b1]
      · rw [decide_eq_true c0, Bool.true_and]
        simp (disch := omega) only [↓reduceIte, ic_t, ic_f, not_true_eq_false, not_false_eq_true, ↓lt_v, leT, leTc, leTd, leF, leFc, leFd, ltT, ltTc, ltTd, ltF, ltFc, ltFd, eqT, eqTc, eqTd, eqF, eqFc, eqFd, m1T, m1F, m1T', m1F', inb_nI, ix_nI, inb_c, ix_c, nI_1, nI_pred, nI_m1, add_nIc, add_cnI, bd_v, reduceCtorEq, eqFcc, m1e0, m1e1, m1l0, m1g0, m2l0, m2g0, Int32.reduceLT, Int32.reduceLE, Int32.reduceAdd, Int32.reduceSub, Int32.reduceMul, eq_self, Bool.false_eq_true, p1, q1, b1, em, hin]
        cases h : (decide (k < o c) && decide (o c < o k))
        · simp (disch := omega) only [↓reduceIte, ic_t, ic_f, not_true_eq_false, not_false_eq_true, ↓lt_v, leT, leTc, leTd, leF, leFc, leFd, ltT, ltTc, ltTd, ltF, ltFc, ltFd, eqT, eqTc, eqTd, eqF, eqFc, eqFd, m1T, m1F, m1T', m1F', inb_nI, ix_nI, inb_c, ix_c, nI_1, nI_pred, nI_m1, add_nIc, add_cnI, bd_v, reduceCtorEq, eqFcc, m1e0, m1e1, m1l0, m1g0, m2l0, m2g0, Int32.reduceLT, Int32.reduceLE, Int32.reduceAdd, Int32.reduceSub, Int32.reduceMul, eq_self, Bool.false_eq_true, b0]
        · simp (disch := omega) only [↓reduceIte, ic_t, ic_f, not_true_eq_false, not_false_eq_true, ↓lt_v, leT, leTc, leTd, leF, leFc, leFd, ltT, ltTc, ltTd, ltF, ltFc, ltFd, eqT, eqTc, eqTd, eqF, eqFc, eqFd, m1T, m1F, m1T', m1F', inb_nI, ix_nI, inb_c, ix_c, nI_1, nI_pred, nI_m1, add_nIc, add_cnI, bd_v, reduceCtorEq, eqFcc, m1e0, m1e1, m1l0, m1g0, m2l0, m2g0, Int32.reduceLT, Int32.reduceLE, Int32.reduceAdd, Int32.reduceSub, Int32.reduceMul, eq_self, Bool.false_eq_true, b1]
theorem r_isLawful {s : Mem} {n a : Nat} {o : Nat → Nat} (hn : n ≤ 6) (hl : ln a = 6) (h0 : s.1 169 3 = nI n) (hr : ∀ k, k < n → s.1 a k = nI (o k) ∧ o k < n) : fX10_isLawful a s = some (bI (fulB n o), s) := by
  have hFU : 2000 < FU := FU_big
  have go : ∀ k, k ≤ n → fX10_isLawful a s = fX10_isLawful_4 (FU - k) a (bI (allB k (fun k => fuB o k))) (nI k) s := by
    intro k
    induction k with
    | zero => intro _; rw [e_X10_isLawful]; rfl
    | succ k ih =>
      intro hk
      obtain ⟨p1, p2⟩ := hr k (by omega)
      rw [ih (by omega), show FU - k = (FU - (k + 1)) + 1 by omega, e_X10_isLawful_4]
      simp (disch := omega) only [↓reduceIte, ic_t, ic_f, not_true_eq_false, not_false_eq_true, ↓lt_v, leT, leTc, leTd, leF, leFc, leFd, ltT, ltTc, ltTd, ltF, ltFc, ltFd, eqT, eqTc, eqTd, eqF, eqFc, eqFd, m1T, m1F, m1T', m1F', inb_nI, ix_nI, inb_c, ix_c, nI_1, nI_pred, nI_m1, add_nIc, add_cnI, bd_v, reduceCtorEq, eqFcc, m1e0, m1e1, m1l0, m1g0, m2l0, m2g0, Int32.reduceLT, Int32.reduceLE, Int32.reduceAdd, Int32.reduceSub, Int32.reduceMul, eq_self, Bool.false_eq_true, h0]
      have eA : allB (k + 1) (fun k => fuB o k) = (allB k (fun k => fuB o k) && fuB o k) := rfl
      rw [eA]
      by_cases c : o k ≤ k + 1
      · have ht : fuB o k = true := allB_m _ (fun i hi => by
          show (if k < i then _ else true) = true
          rw [if_neg (by omega)])
        rw [ht, Bool.and_true]
        generalize FU - (k + 1) = fu1
        have hFU2 : 2000 < FU := FU_big
        generalize FU = fu2 at hFU2 ⊢
        obtain ⟨fu2, rfl⟩ : ∃ m, fu2 = m + 1 := ⟨fu2 - 1, by omega⟩
        rw [e_X10_isLawful_17, hl]
        simp (disch := omega) only [↓reduceIte, ic_t, ic_f, not_true_eq_false, not_false_eq_true, ↓lt_v, leT, leTc, leTd, leF, leFc, leFd, ltT, ltTc, ltTd, ltF, ltFc, ltFd, eqT, eqTc, eqTd, eqF, eqFc, eqFd, m1T, m1F, m1T', m1F', inb_nI, ix_nI, inb_c, ix_c, nI_1, nI_pred, nI_m1, add_nIc, add_cnI, bd_v, reduceCtorEq, eqFcc, m1e0, m1e1, m1l0, m1g0, m2l0, m2g0, Int32.reduceLT, Int32.reduceLE, Int32.reduceAdd, Int32.reduceSub, Int32.reduceMul, eq_self, Bool.false_eq_true, p1]
      · have ht : allB (k + 1) (fuC o k) = true := allB_m _ (fun i hi => by
          show (if k < i then _ else true) = true
          rw [if_neg (by omega)])
        have := r_law17 (s := s) (b := allB k (fun k => fuB o k)) (k4 := fX10_isLawful_4 (FU - (k + 1))) hn hl hr (show k < n by omega) (o k - (k + 1)) (k + 1) FU (by omega) (by omega) (by omega)
        rw [ht, Bool.and_true] at this
        exact this
  rw [go n (Nat.le_refl _), show FU - n = (FU - (n + 1)) + 1 by omega, e_X10_isLawful_4]
  simp (disch := omega) only [↓reduceIte, ic_t, ic_f, not_true_eq_false, not_false_eq_true, ↓lt_v, leT, leTc, leTd, leF, leFc, leFd, ltT, ltTc, ltTd, ltF, ltFc, ltFd, eqT, eqTc, eqTd, eqF, eqFc, eqFd, m1T, m1F, m1T', m1F', inb_nI, ix_nI, inb_c, ix_c, nI_1, nI_pred, nI_m1, add_nIc, add_cnI, bd_v, reduceCtorEq, eqFcc, m1e0, m1e1, m1l0, m1g0, m2l0, m2g0, Int32.reduceLT, Int32.reduceLE, Int32.reduceAdd, Int32.reduceSub, Int32.reduceMul, eq_self, Bool.false_eq_true, h0]
  have : bI (allB n (fun k => fuB o k)) = 0 ∨ bI (allB n (fun k => fuB o k)) = 1 := by
    cases allB n (fun k => fuB o k)
    · exact Or.inl rfl
    · exact Or.inr rfl
  rw [ic_pos this]
  rfl
def uppd (p : Nat → Nat) (k j : Nat) : Nat → Nat := fun i => if i = j then k + 1 else if i = k then j + 1 else p i
def pfl (rec : (Nat → Nat) → Nat → Option Nat) (k : Nat) (p : Nat → Nat) : Nat → Nat → Nat → Option Nat
  | 0, _, m => some m
  | e + 1, j, m => if p j ≠ 0 then pfl rec k p e (j + 1) m else (rec (uppd p k j) m).bind (fun m' => pfl rec k p e (j + 1) m')
def pfx (n : Nat) : Nat → (Nat → Nat) → Nat → Option Nat
  | 0, p, m => if fulB n (fun j => p j - 1) = true then (if m < 20 ∧ allB n (fun j => un n (sN n m) j == p j - 1) = true then some (m + 1) else none) else some m
  | d + 1, p, m => if p (n - (d + 1)) ≠ 0 then pfx n d p m else pfl (pfx n d) (n - (d + 1)) p (d + 1) (n - (d + 1)) m
theorem pfx_ok : ∀ n, n < 7 → pfx n n (fun _ => 0) 0 = some (setsN n) := by decide +kernel
