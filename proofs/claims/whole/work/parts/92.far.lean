/-! PURE: who is farthest -/
def dst (k p : Nat) : Nat := if p ≤ k then k - p else p - k
theorem dst_le {k p : Nat} (hk : k < 6) (hp : p < 6) : dst k p < 6 := by unfold dst; split <;> omega
theorem dst_i : ∀ k, k < 6 → ∀ p, p < 6 → (if (0 : Int32) ≤ nI k - nI p then nI k - nI p else 0 - (nI k - nI p)) = nI (dst k p) := by decide +kernel
/-- who of the first boats goes farthest, and how far -/
def ft (pl gi : Nat → Nat) : Nat → Nat × Nat
  | 0 => (0, 0)
  | a + 1 => if dst (gi a) (pl a) ≤ (ft pl gi a).2 then ft pl gi a else (a, dst (gi a) (pl a))
theorem ft_le {pl gi : Nat → Nat} {n : Nat} (hn : n ≤ 6) (hp : ∀ a, a < n → pl a < n ∧ gi a < n) : ∀ a, a ≤ n → (ft pl gi a).1 < 7 ∧ (ft pl gi a).2 < 6
  | 0, _ => ⟨by show 0 < 7; omega, by show 0 < 6; omega⟩
  | a + 1, h => by
    have ih := ft_le hn hp a (by omega)
    have := hp a (by omega)
    have := dst_le (k := gi a) (p := pl a) (by omega) (by omega)
    unfold ft
    split
    · exact ih
    · exact ⟨by show a < 7; omega, this⟩
theorem c_far20 {s : Mem} {n a : Nat} {pl gi g : Nat → Nat} {k6 : Int32 → Int32 → Int32 → Mem → Option Mem} (hn : n ≤ 6) (ha : a < n) (e0 : s.1 6 0 = nI n) (hp : ∀ a, a < n → pl a < n ∧ gi a < n) (h9 : ∀ a, a < n → s.1 9 a = nI (pl a)) (hg : ∀ k, k < n → s.1 142 k = nI (g k) ∧ g k < n) (hgi : ∀ k, k < n → (g k = a ↔ k = gi a)) : ∀ d j fu, j + d = n → d + 1 ≤ fu → fX9_tellFarthest_20 k6 fu (nI (if j ≤ gi a then ft pl gi a else ft pl gi (a + 1)).1) (nI (if j ≤ gi a then ft pl gi a else ft pl gi (a + 1)).2) (nI a) (nI j) s = k6 (nI (ft pl gi (a + 1)).1) (nI (ft pl gi (a + 1)).2) (nI (a + 1)) s := by
  have hga := (hp a ha).2
  have hpa := (hp a ha).1
  have l0 := ft_le hn hp a (by omega)
  have l1 := ft_le hn hp (a + 1) (by omega)
  intro d
  induction d with
  | zero =>
    intro j fu hj hfu
    obtain ⟨fu, rfl⟩ : ∃ m, fu = m + 1 := ⟨fu - 1, by omega⟩
    rw [if_neg (show ¬ j ≤ gi a by omega), e_X9_tellFarthest_20]
    simp (disch := omega) only [↓reduceIte, ic_t, ic_f, not_true_eq_false, not_false_eq_true, ↓lt_v, rdR, rdE, rdS, leT, leTc, leTd, leF, leFc, leFd, ltT, ltTc, ltTd, ltF, ltFc, ltFd, eqT, eqTc, eqTd, eqF, eqFc, eqFd, m1T, m1F, m1T', m1F', inb_nI, ix_nI, inb_c, ix_c, nI_1, nI_pred, nI_m1, add_nIc, add_cnI, bd_v, reduceCtorEq, eqFcc, m1e0, m1e1, m1l0, m1g0, m2l0, m2g0, Int32.reduceLT, Int32.reduceLE, Int32.reduceAdd, Int32.reduceSub, Int32.reduceMul, eq_self, Bool.false_eq_true, e0]
  | succ d ih =>
    intro j fu hj hfu
    obtain ⟨fu, rfl⟩ : ∃ m, fu = m + 1 := ⟨fu - 1, by omega⟩
    have ih := ih (j + 1) fu (by omega) (by omega)
    have p9 := h9 a ha
    obtain ⟨q1, q2⟩ := hg j (by omega)
    have hd := dst_i j (by omega) (pl a) (by omega)
    have hdl := dst_le (k := j) (p := pl a) (by omega) (by omega)
    rw [← ih, e_X9_tellFarthest_20]
    by_cases c : j = gi a
    · have gj : g j = a := (hgi j (by omega)).2 c
      rw [if_pos (show j ≤ gi a by omega), if_neg (show ¬ j + 1 ≤ gi a by omega)]
      have fe : ft pl gi (a + 1) = if dst j (pl a) ≤ (ft pl gi a).2 then ft pl gi a else (a, dst j (pl a)) := by rw [c]; rfl
      by_cases c2 : dst j (pl a) ≤ (ft pl gi a).2
      · rw [if_pos c2] at fe
        rw [fe]
        simp (disch := omega) only [↓reduceIte, ic_t, ic_f, not_true_eq_false, not_false_eq_true, ↓lt_v, leT, leTc, leTd, leF, leFc, leFd, ltT, ltTc, ltTd, ltF, ltFc, ltFd, eqT, eqTc, eqTd, eqF, eqFc, eqFd, m1T, m1F, m1T', m1F', inb_nI, ix_nI, inb_c, ix_c, nI_1, nI_pred, nI_m1, add_nIc, add_cnI, bd_v, reduceCtorEq, eqFcc, m1e0, m1e1, m1l0, m1g0, m2l0, m2g0, Int32.reduceLT, Int32.reduceLE, Int32.reduceAdd, Int32.reduceSub, Int32.reduceMul, eq_self, Bool.false_eq_true, e0, p9, q1, hd]
      · rw [if_neg c2] at fe
        rw [fe]
        simp (disch := omega) only [↓reduceIte, ic_t, ic_f, not_true_eq_false, not_false_eq_true, ↓lt_v, leT, leTc, leTd, leF, leFc, leFd, ltT, ltTc, ltTd, ltF, ltFc, ltFd, eqT, eqTc, eqTd, eqF, eqFc, eqFd, m1T, m1F, m1T', m1F', inb_nI, ix_nI, inb_c, ix_c, nI_1, nI_pred, nI_m1, add_nIc, add_cnI, bd_v, reduceCtorEq, eqFcc, m1e0, m1e1, m1l0, m1g0, m2l0, m2g0, Int32.reduceLT, Int32.reduceLE, Int32.reduceAdd, Int32.reduceSub, Int32.reduceMul, eq_self, Bool.false_eq_true, e0, p9, q1, hd]
    · have gj : g j ≠ a := fun e => c ((hgi j (by omega)).1 e)
      by_cases c2 : j ≤ gi a
      · rw [if_pos c2, if_pos (show j + 1 ≤ gi a by omega)]
        simp (disch := omega) only [↓reduceIte, ic_t, ic_f, not_true_eq_false, not_false_eq_true, ↓lt_v, leT, leTc, leTd, leF, leFc, leFd, ltT, ltTc, ltTd, ltF, ltFc, ltFd, eqT, eqTc, eqTd, eqF, eqFc, eqFd, m1T, m1F, m1T', m1F', inb_nI, ix_nI, inb_c, ix_c, nI_1, nI_pred, nI_m1, add_nIc, add_cnI, bd_v, reduceCtorEq, eqFcc, m1e0, m1e1, m1l0, m1g0, m2l0, m2g0, Int32.reduceLT, Int32.reduceLE, Int32.reduceAdd, Int32.reduceSub, Int32.reduceMul, eq_self, Bool.false_eq_true, e0, p9, q1, hd]
      · rw [if_neg c2, if_neg (show ¬ j + 1 ≤ gi a by omega)]
        simp (disch := omega) only [↓reduceIte, ic_t, ic_f, not_true_eq_false, not_false_eq_true, ↓lt_v, leT, leTc, leTd, leF, leFc, leFd, ltT, ltTc, ltTd, ltF, ltFc, ltFd, eqT, eqTc, eqTd, eqF, eqFc, eqFd, m1T, m1F, m1T', m1F', inb_nI, ix_nI, inb_c, ix_c, nI_1, nI_pred, nI_m1, add_nIc, add_cnI, bd_v, reduceCtorEq, eqFcc, m1e0, m1e1, m1l0, m1g0, m2l0, m2g0, Int32.reduceLT, Int32.reduceLE, Int32.reduceAdd, Int32.reduceSub, Int32.reduceMul, eq_self, Bool.false_eq_true, e0, p9, q1, hd]
theorem c_far {s : Mem} {n : Nat} {pl gi g : Nat → Nat} (hn : n ≤ 6) (e0 : s.1 6 0 = nI n) (hp : ∀ a, a < n → pl a < n ∧ gi a < n) (h9 : ∀ a, a < n → s.1 9 a = nI (pl a)) (hg : ∀ k, k < n → s.1 142 k = nI (g k) ∧ g k < n) (hgi : ∀ a k, a < n → k < n → (g k = a ↔ k = gi a)) : fX9_tellFarthest s = (fX5_tellBoth (nI (ft pl gi n).1).toInt64 (nI (ft pl gi n).2).toInt64 s).bind fun q => some q := by
  have hFU : 2000 < FU := FU_big
  have go : ∀ k, k ≤ n → fX9_tellFarthest s = fX9_tellFarthest_6 (FU - k) (nI (ft pl gi k).1) (nI (ft pl gi k).2) (nI k) s := by
    intro k
    induction k with
    | zero => intro _; rw [e_X9_tellFarthest]; rfl
    | succ k ih =>
      intro hk
      rw [ih (by omega), show FU - k = (FU - (k + 1)) + 1 by omega, e_X9_tellFarthest_6]
      simp (disch := omega) only [↓reduceIte, ic_t, ic_f, not_true_eq_false, not_false_eq_true, ↓lt_v, leT, leTc, leTd, leF, leFc, leFd, ltT, ltTc, ltTd, ltF, ltFc, ltFd, eqT, eqTc, eqTd, eqF, eqFc, eqFd, m1T, m1F, m1T', m1F', inb_nI, ix_nI, inb_c, ix_c, nI_1, nI_pred, nI_m1, add_nIc, add_cnI, bd_v, reduceCtorEq, eqFcc, m1e0, m1e1, m1l0, m1g0, m2l0, m2g0, Int32.reduceLT, Int32.reduceLE, Int32.reduceAdd, Int32.reduceSub, Int32.reduceMul, eq_self, Bool.false_eq_true, e0]
      have := c_far20 (a := k) (k6 := fX9_tellFarthest_6 (FU - (k + 1))) hn (by omega) e0 hp h9 hg (fun j hj => hgi k j (by omega) hj) n 0 FU (by omega) (by omega)
      rw [if_pos (Nat.zero_le _)] at this
      exact this
  rw [go n (Nat.le_refl _), show FU - n = (FU - (n + 1)) + 1 by omega, e_X9_tellFarthest_6]
  simp (disch := omega) only [↓reduceIte, ic_t, ic_f, not_true_eq_false, not_false_eq_true, ↓lt_v, leT, leTc, leTd, leF, leFc, leFd, ltT, ltTc, ltTd, ltF, ltFc, ltFd, eqT, eqTc, eqTd, eqF, eqFc, eqFd, m1T, m1F, m1T', m1F', inb_nI, ix_nI, inb_c, ix_c, nI_1, nI_pred, nI_m1, add_nIc, add_cnI, bd_v, reduceCtorEq, eqFcc, m1e0, m1e1, m1l0, m1g0, m2l0, m2g0, Int32.reduceLT, Int32.reduceLE, Int32.reduceAdd, Int32.reduceSub, Int32.reduceMul, eq_self, Bool.false_eq_true, e0]
