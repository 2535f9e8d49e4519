/-! PURE: crossed of the reference -/
theorem r_placeIn {s : Mem} {n a : Nat} {gi g : Nat → Nat} (hn : n ≤ 6) (hga : gi a < n) (hg : ∀ k, k < n → s.1 190 k = nI (g k) ∧ g k < n) (ha : a < n) (hgi : ∀ k, k < n → (g k = a ↔ k = gi a)) : fX10_placeIn 190 (nI a) s = some (nI (gi a), s) := by
  have hFU : 2000 < FU := FU_big
  have l := ln190
  have go : ∀ k, k ≤ gi a → fX10_placeIn 190 (nI a) s = fX10_placeIn_2 (FU - k) 190 (nI a) (nI k) s := by
    intro k
    induction k with
    | zero => intro _; rw [e_X10_placeIn]; rfl
    | succ k ih =>
      intro hk
      obtain ⟨q1, q2⟩ := hg k (by omega)
      have gk : g k ≠ a := fun e => by have := (hgi k (by omega)).1 e; omega
      rw [ih (by omega), show FU - k = (FU - (k + 1)) + 1 by omega, e_X10_placeIn_2]
      simp (disch := omega) only [↓reduceIte, ic_t, ic_f, not_true_eq_false, not_false_eq_true, ↓lt_v, rdR, rdE, rdS, leT, leTc, leTd, leF, leFc, leFd, ltT, ltTc, ltTd, ltF, ltFc, ltFd, eqT, eqTc, eqTd, eqF, eqFc, eqFd, m1T, m1F, m1T', m1F', inb_nI, ix_nI, inb_c, ix_c, nI_1, nI_pred, nI_m1, add_nIc, add_cnI, bd_v, reduceCtorEq, eqFcc, m1e0, m1e1, m1l0, m1g0, m2l0, m2g0, Int32.reduceLT, Int32.reduceLE, Int32.reduceAdd, Int32.reduceSub, Int32.reduceMul, eq_self, Bool.false_eq_true, q1]
  obtain ⟨q1, q2⟩ := hg (gi a) hga
  have gk : g (gi a) = a := (hgi (gi a) hga).2 rfl
  rw [go (gi a) (Nat.le_refl _), show FU - gi a = (FU - (gi a + 1)) + 1 by omega, e_X10_placeIn_2]
  simp (disch := omega) only [↓reduceIte, ic_t, ic_f, not_true_eq_false, not_false_eq_true, ↓lt_v, rdR, rdE, rdS, leT, leTc, leTd, leF, leFc, leFd, ltT, ltTc, ltTd, ltF, ltFc, ltFd, eqT, eqTc, eqTd, eqF, eqFc, eqFd, m1T, m1F, m1T', m1F', inb_nI, ix_nI, inb_c, ix_c, nI_1, nI_pred, nI_m1, add_nIc, add_cnI, bd_v, reduceCtorEq, eqFcc, m1e0, m1e1, m1l0, m1g0, m2l0, m2g0, Int32.reduceLT, Int32.reduceLE, Int32.reduceAdd, Int32.reduceSub, Int32.reduceMul, eq_self, Bool.false_eq_true, q1]
theorem r_cross107 {s : Mem} {n a c : Nat} {x2 x3 : Int32} {pl gi : Nat → Nat} {k50 : Int32 → Int32 → Int32 → Int32 → Mem → Option (Int32 × Mem)} (hn : n ≤ 6) (ha : a < n) (hc : c ≤ 100) (hp : ∀ a, a < n → pl a < n ∧ gi a < n) (h171 : ∀ b, b < n → s.1 171 (12 + b) = nI (pl b)) (hpi : ∀ b, b < n → fX10_placeIn 190 (nI b) s = some (nI (gi b), s)) : ∀ d j fu, j + d = a → d + 1 ≤ fu → fX10_crossed_107 k50 fu (nI (c + sm j (fun b => if decide (pl b ≤ pl a) = decide (gi b ≤ gi a) then 0 else 1))) x2 x3 (nI a) (nI j) s = k50 (nI (c + sm a (fun b => if decide (pl b ≤ pl a) = decide (gi b ≤ gi a) then 0 else 1))) x2 x3 (nI (a + 1)) s := by
  have f0 : ∀ N : Mem, fX10_flag 0 N = some (0, N) := fun N => r_flagI (Or.inl rfl)
  have f1 : ∀ N : Mem, fX10_flag 1 N = some (1, N) := fun N => r_flagI (Or.inr rfl)
  intro d
  induction d with
  | zero =>
    intro j fu hj hfu
    have hj : j = a := hj
    subst hj
    obtain ⟨fu, rfl⟩ : ∃ m, fu = m + 1 := ⟨fu - 1, by omega⟩
    rw [e_X10_crossed_107]
    simp (disch := omega) only [↓reduceIte, ic_t, ic_f, not_true_eq_false, not_false_eq_true, ↓lt_v, rdR, rdE, rdS, leT, leTc, leTd, leF, leFc, leFd, ltT, ltTc, ltTd, ltF, ltFc, ltFd, eqT, eqTc, eqTd, eqF, eqFc, eqFd, m1T, m1F, m1T', m1F', inb_nI, ix_nI, inb_c, ix_c, nI_1, nI_pred, nI_m1, add_nIc, add_cnI, bd_v, reduceCtorEq, eqFcc, m1e0, m1e1, m1l0, m1g0, m2l0, m2g0, Int32.reduceLT, Int32.reduceLE, Int32.reduceAdd, Int32.reduceSub, Int32.reduceMul, eq_self, Bool.false_eq_true]
  | succ d ih =>
    intro j fu hj hfu
    obtain ⟨fu, rfl⟩ : ∃ m, fu = m + 1 := ⟨fu - 1, by omega⟩
    have ih := ih (j + 1) fu (by omega) (by omega)
    have es : sm (j + 1) (fun b => if decide (pl b ≤ pl a) = decide (gi b ≤ gi a) then 0 else 1) = sm j (fun b => if decide (pl b ≤ pl a) = decide (gi b ≤ gi a) then 0 else 1) + (if decide (pl j ≤ pl a) = decide (gi j ≤ gi a) then 0 else 1) := rfl
    have hb := sm_le1 (f := fun b => if decide (pl b ≤ pl a) = decide (gi b ≤ gi a) then 0 else 1) (fun k => by show (if decide (pl k ≤ pl a) = decide (gi k ≤ gi a) then 0 else 1) ≤ 1; split <;> omega) j
    generalize sm j (fun b => if decide (pl b ≤ pl a) = decide (gi b ≤ gi a) then 0 else 1) = z at es hb ⊢
    rw [es] at ih
    rw [← ih, e_X10_crossed_107]
    have a1 := h171 a ha
    have a2 := h171 j (by omega)
    have a3 := hpi a ha
    have a4 := hpi j (by omega)
    have a5 := hp a ha
    have a6 := hp j (by omega)
    by_cases c1 : pl j ≤ pl a
    · by_cases c2 : gi j ≤ gi a
      · rw [decide_eq_true c1, decide_eq_true c2, if_pos rfl]
        simp (disch := omega) only [↓reduceIte, ic_t, ic_f, not_true_eq_false, not_false_eq_true, ↓lt_v, leT, leTc, leTd, leF, leFc, leFd, ltT, ltTc, ltTd, ltF, ltFc, ltFd, eqT, eqTc, eqTd, eqF, eqFc, eqFd, m1T, m1F, m1T', m1F', inb_nI, ix_nI, inb_c, ix_c, nI_1, nI_pred, nI_m1, add_nIc, add_cnI, bd_v, reduceCtorEq, eqFcc, m1e0, m1e1, m1l0, m1g0, m2l0, m2g0, Int32.reduceLT, Int32.reduceLE, Int32.reduceAdd, Int32.reduceSub, Int32.reduceMul, eq_self, Bool.false_eq_true, a1, a2, a3, a4, e_X10_crossed_143, e_X10_crossed_169, e_X10_crossed_177, f0, f1]
        rfl
      · rw [decide_eq_true c1, decide_eq_false c2, if_neg (by decide)]
        simp (disch := omega) only [↓reduceIte, ic_t, ic_f, not_true_eq_false, not_false_eq_true, ↓lt_v, leT, leTc, leTd, leF, leFc, leFd, ltT, ltTc, ltTd, ltF, ltFc, ltFd, eqT, eqTc, eqTd, eqF, eqFc, eqFd, m1T, m1F, m1T', m1F', inb_nI, ix_nI, inb_c, ix_c, nI_1, nI_pred, nI_m1, add_nIc, add_cnI, bd_v, reduceCtorEq, eqFcc, m1e0, m1e1, m1l0, m1g0, m2l0, m2g0, Int32.reduceLT, Int32.reduceLE, Int32.reduceAdd, Int32.reduceSub, Int32.reduceMul, eq_self, Bool.false_eq_true, a1, a2, a3, a4, e_X10_crossed_143, e_X10_crossed_169, e_X10_crossed_177, f0, f1]
        rfl
    · by_cases c2 : gi j ≤ gi a
      · rw [decide_eq_false c1, decide_eq_true c2, if_neg (by decide)]
        simp (disch := omega) only [↓reduceIte, ic_t, ic_f, not_true_eq_false, not_false_eq_true, ↓lt_v, leT, leTc, leTd, leF, leFc, leFd, ltT, ltTc, ltTd, ltF, ltFc, ltFd, eqT, eqTc, eqTd, eqF, eqFc, eqFd, m1T, m1F, m1T', m1F', inb_nI, ix_nI, inb_c, ix_c, nI_1, nI_pred, nI_m1, add_nIc, add_cnI, bd_v, reduceCtorEq, eqFcc, m1e0, m1e1, m1l0, m1g0, m2l0, m2g0, Int32.reduceLT, Int32.reduceLE, Int32.reduceAdd, Int32.reduceSub, Int32.reduceMul, eq_self, Bool.false_eq_true, a1, a2, a3, a4, e_X10_crossed_143, e_X10_crossed_169, e_X10_crossed_177, f0, f1]
        rfl
      · rw [decide_eq_false c1, decide_eq_false c2, if_pos rfl]
        simp (disch := omega) only [↓reduceIte, ic_t, ic_f, not_true_eq_false, not_false_eq_true, ↓lt_v, leT, leTc, leTd, leF, leFc, leFd, ltT, ltTc, ltTd, ltF, ltFc, ltFd, eqT, eqTc, eqTd, eqF, eqFc, eqFd, m1T, m1F, m1T', m1F', inb_nI, ix_nI, inb_c, ix_c, nI_1, nI_pred, nI_m1, add_nIc, add_cnI, bd_v, reduceCtorEq, eqFcc, m1e0, m1e1, m1l0, m1g0, m2l0, m2g0, Int32.reduceLT, Int32.reduceLE, Int32.reduceAdd, Int32.reduceSub, Int32.reduceMul, eq_self, Bool.false_eq_true, a1, a2, a3, a4, e_X10_crossed_143, e_X10_crossed_169, e_X10_crossed_177, f0, f1]
        rfl
theorem r_cross50 {s : Mem} {n : Nat} {pl gi : Nat → Nat} (hn : n ≤ 6) (e0 : s.1 169 3 = nI n) (hp : ∀ a, a < n → pl a < n ∧ gi a < n) (h171 : ∀ b, b < n → s.1 171 (12 + b) = nI (pl b)) (hpi : ∀ b, b < n → fX10_placeIn 190 (nI b) s = some (nI (gi b), s)) : fX10_crossed_50 FU 0 0 0 0 s = (fX10_enters (nI (ft pl gi n).1).toInt64 (sI s 169 1 0)).bind fun q12 => (fX10_enters (nI (ft pl gi n).2).toInt64 q12).bind fun q14 => some (nI (tr n (fun a b => if decide (pl b ≤ pl a) = decide (gi b ≤ gi a) then 0 else 1)), q14) := by
  have hFU : 2000 < FU := FU_big
  have hb : ∀ k, k ≤ n → tr k (fun a b => if decide (pl b ≤ pl a) = decide (gi b ≤ gi a) then 0 else 1) ≤ 36 := fun k hk => by
    have h1 := tr_le (F := fun a b => if decide (pl b ≤ pl a) = decide (gi b ≤ gi a) then 0 else 1) (fun a b => by show (if decide (pl b ≤ pl a) = decide (gi b ≤ gi a) then 0 else 1) ≤ 1; split <;> omega) k
    have h2 : k * k ≤ 6 * 6 := Nat.mul_le_mul (by omega) (by omega)
    omega
  have go : ∀ k, k ≤ n → fX10_crossed_50 FU 0 0 0 0 s = fX10_crossed_50 (FU - k) (nI (tr k (fun a b => if decide (pl b ≤ pl a) = decide (gi b ≤ gi a) then 0 else 1))) (nI (ft pl gi k).1) (nI (ft pl gi k).2) (nI k) s := by
    intro k
    induction k with
    | zero => intro _; rfl
    | succ k ih =>
      intro hk
      have l0 := ft_le hn hp k (by omega)
      have a1 := h171 k (by omega)
      have a3 := hpi k (by omega)
      have a5 := hp k (by omega)
      have hd := dst_i (gi k) (by omega) (pl k) (by omega)
      have hdl := dst_le (k := gi k) (p := pl k) (by omega) (by omega)
      have inner := fun x2 x3 => r_cross107 (a := k) (x2 := x2) (x3 := x3) (k50 := fX10_crossed_50 (FU - (k + 1))) (c := tr k (fun a b => if decide (pl b ≤ pl a) = decide (gi b ≤ gi a) then 0 else 1)) hn (by omega) (by have := hb k (by omega); omega) hp h171 hpi k 0 FU (by omega) (by omega)
      rw [ih (by omega), show FU - k = (FU - (k + 1)) + 1 by omega, e_X10_crossed_50]
      by_cases c : dst (gi k) (pl k) ≤ (ft pl gi k).2
      · have fe : ft pl gi (k + 1) = ft pl gi k := by show (if _ then _ else _) = _; rw [if_pos c]
        rw [fe]
        have mx : (if nI (ft pl gi k).2 < nI (dst (gi k) (pl k)) then nI (dst (gi k) (pl k)) else nI (ft pl gi k).2) = nI (ft pl gi k).2 := if_neg (nI_nlt c (by omega))
        simp (disch := omega) only [↓reduceIte, ic_t, ic_f, not_true_eq_false, not_false_eq_true, ↓lt_v, leT, leTc, leTd, leF, leFc, leFd, ltT, ltTc, ltTd, ltF, ltFc, ltFd, eqT, eqTc, eqTd, eqF, eqFc, eqFd, m1T, m1F, m1T', m1F', inb_nI, ix_nI, inb_c, ix_c, nI_1, nI_pred, nI_m1, add_nIc, add_cnI, bd_v, reduceCtorEq, eqFcc, m1e0, m1e1, m1l0, m1g0, m2l0, m2g0, Int32.reduceLT, Int32.reduceLE, Int32.reduceAdd, Int32.reduceSub, Int32.reduceMul, eq_self, Bool.false_eq_true, e0, a1, a3, hd, e_X10_crossed_96, mx]
        exact inner _ _
      · have fe : ft pl gi (k + 1) = (k, dst (gi k) (pl k)) := by show (if _ then _ else _) = _; rw [if_neg c]
        rw [fe]
        have mx : (if nI (ft pl gi k).2 < nI (dst (gi k) (pl k)) then nI (dst (gi k) (pl k)) else nI (ft pl gi k).2) = nI (dst (gi k) (pl k)) := if_pos (nI_lt (by omega) (by omega))
        simp (disch := omega) only [↓reduceIte, ic_t, ic_f, not_true_eq_false, not_false_eq_true, ↓lt_v, leT, leTc, leTd, leF, leFc, leFd, ltT, ltTc, ltTd, ltF, ltFc, ltFd, eqT, eqTc, eqTd, eqF, eqFc, eqFd, m1T, m1F, m1T', m1F', inb_nI, ix_nI, inb_c, ix_c, nI_1, nI_pred, nI_m1, add_nIc, add_cnI, bd_v, reduceCtorEq, eqFcc, m1e0, m1e1, m1l0, m1g0, m2l0, m2g0, Int32.reduceLT, Int32.reduceLE, Int32.reduceAdd, Int32.reduceSub, Int32.reduceMul, eq_self, Bool.false_eq_true, e0, a1, a3, hd, e_X10_crossed_96, mx]
        exact inner _ _
  rw [go n (Nat.le_refl _), show FU - n = (FU - (n + 1)) + 1 by omega, e_X10_crossed_50]
  simp (disch := omega) only [↓reduceIte, ic_t, ic_f, not_true_eq_false, not_false_eq_true, ↓lt_v, leT, leTc, leTd, leF, leFc, leFd, ltT, ltTc, ltTd, ltF, ltFc, ltFd, eqT, eqTc, eqTd, eqF, eqFc, eqFd, m1T, m1F, m1T', m1F', inb_nI, ix_nI, inb_c, ix_c, nI_1, nI_pred, nI_m1, add_nIc, add_cnI, bd_v, reduceCtorEq, eqFcc, m1e0, m1e1, m1l0, m1g0, m2l0, m2g0, Int32.reduceLT, Int32.reduceLE, Int32.reduceAdd, Int32.reduceSub, Int32.reduceMul, eq_self, Bool.false_eq_true, e0]
