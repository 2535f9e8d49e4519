/-! PURE: crossed of the class -/
theorem c_relate {M : Mem} {n : Nat} {v : VV} {g : Nat → Nat} (hn : n ≤ 6) (hv : RvC 6 n v M) (hg : ∀ i, i < n → g i < n) (h142 : ∀ i, i < n → M.1 142 i = nI (g i)) : Ok (fX9_relate 6 M) (fun M' => (∀ i, i < n → M'.1 143 i = v.1 (12 + g i)) ∧ Fr (fun a => a = 143) M M') := by
  have e0 : M.1 6 0 = nI n := hv.1
  rw [e_X9_relate]
  have hFU : 2000 < FU := FU_big
  generalize FU = fu0 at hFU ⊢
  refine ok_loop n (fun fu k s => fX9_relate_2 fu 6 (nI k) s) (fun k s => (∀ i, i < k → s.1 143 i = v.1 (12 + g i)) ∧ Fr (fun a => a = 143) M s) ?_ ?_ fu0 0 M (by omega) (by omega) ⟨fun i hi => absurd hi (Nat.not_lt_zero _), fr_rfl⟩
  · intro fu k s hk hs ih
    obtain ⟨b1, b2⟩ := hs
    have hgk := hg k hk
    have s0 : s.1 6 0 = nI n := by rw [b2.1 6 (by omega)]; exact e0
    have s1 : s.1 142 k = nI (g k) := by rw [b2.1 142 (by omega)]; exact h142 k hk
    have s2 : s.1 (6 + 3) (g k) = v.1 (12 + g k) := by rw [b2.1 (6 + 3) (by omega)]; exact hv.2.2.2.1 (g k) hgk
    rw [e_X9_relate_2]
    simp (disch := omega) only [↓reduceIte, ic_t, ic_f, not_true_eq_false, not_false_eq_true, ↓lt_v, rdR, rdE, rdS, leT, leTc, leTd, leF, leFc, leFd, ltT, ltTc, ltTd, ltF, ltFc, ltFd, eqT, eqTc, eqTd, eqF, eqFc, eqFd, m1T, m1F, m1T', m1F', inb_nI, ix_nI, inb_c, ix_c, nI_1, nI_pred, nI_m1, add_nIc, add_cnI, bd_v, reduceCtorEq, eqFcc, m1e0, m1e1, m1l0, m1g0, m2l0, m2g0, Int32.reduceLT, Int32.reduceLE, Int32.reduceAdd, Int32.reduceSub, Int32.reduceMul, eq_self, Bool.false_eq_true, s0, s1, e_X4_has, s2]
    refine ih _ ⟨fun i hi => ?_, fr_trans b2 (fr_sI rfl)⟩
    by_cases e : i = k
    · subst e; simp (disch := omega) only [↓reduceIte, ic_t, ic_f, not_true_eq_false, not_false_eq_true, ↓lt_v, rdR, rdE, rdS, leT, leTc, leTd, leF, leFc, leFd, ltT, ltTc, ltTd, ltF, ltFc, ltFd, eqT, eqTc, eqTd, eqF, eqFc, eqFd, m1T, m1F, m1T', m1F', inb_nI, ix_nI, inb_c, ix_c, nI_1, nI_pred, nI_m1, add_nIc, add_cnI, bd_v, reduceCtorEq, eqFcc, m1e0, m1e1, m1l0, m1g0, m2l0, m2g0, Int32.reduceLT, Int32.reduceLE, Int32.reduceAdd, Int32.reduceSub, Int32.reduceMul, eq_self, Bool.false_eq_true]
    · simp (disch := omega) only [↓reduceIte, ic_t, ic_f, not_true_eq_false, not_false_eq_true, ↓lt_v, rdR, rdE, rdS, leT, leTc, leTd, leF, leFc, leFd, ltT, ltTc, ltTd, ltF, ltFc, ltFd, eqT, eqTc, eqTd, eqF, eqFc, eqFd, m1T, m1F, m1T', m1F', inb_nI, ix_nI, inb_c, ix_c, nI_1, nI_pred, nI_m1, add_nIc, add_cnI, bd_v, reduceCtorEq, eqFcc, m1e0, m1e1, m1l0, m1g0, m2l0, m2g0, Int32.reduceLT, Int32.reduceLE, Int32.reduceAdd, Int32.reduceSub, Int32.reduceMul, eq_self, Bool.false_eq_true]; exact b1 i (by omega)
  · intro fu s hs
    obtain ⟨b1, b2⟩ := hs
    have s0 : s.1 6 0 = nI n := by rw [b2.1 6 (by omega)]; exact e0
    rw [e_X9_relate_2]
    simp (disch := omega) only [↓reduceIte, ic_t, ic_f, not_true_eq_false, not_false_eq_true, ↓lt_v, rdR, rdE, rdS, leT, leTc, leTd, leF, leFc, leFd, ltT, ltTc, ltTd, ltF, ltFc, ltFd, eqT, eqTc, eqTd, eqF, eqFc, eqFd, m1T, m1F, m1T', m1F', inb_nI, ix_nI, inb_c, ix_c, nI_1, nI_pred, nI_m1, add_nIc, add_cnI, bd_v, reduceCtorEq, eqFcc, m1e0, m1e1, m1l0, m1g0, m2l0, m2g0, Int32.reduceLT, Int32.reduceLE, Int32.reduceAdd, Int32.reduceSub, Int32.reduceMul, eq_self, Bool.false_eq_true, s0]
    exact ok_some ⟨b1, b2⟩
theorem sm_le1 {f : Nat → Nat} (h : ∀ i, f i ≤ 1) : ∀ n, sm n f ≤ n := fun n => sm_le n (fun i _ => h i)
theorem c_cross39 {s : Mem} {n i c : Nat} {h : Nat → Nat} {k25 : Int32 → Int32 → Mem → Option (Int32 × Mem)} (hn : n ≤ 6) (hi : i < n) (hc : c ≤ 100) (hh : ∀ i, i < n → s.1 143 i = nI (h i) ∧ h i < 6) : ∀ d j fu, j + d = i → d + 1 ≤ fu → fX9_crossed_39 k25 fu (nI (c + sm j (fun j => if h j ≤ h i then 0 else 1))) (nI i) (nI j) s = k25 (nI (c + sm i (fun j => if h j ≤ h i then 0 else 1))) (nI (i + 1)) s := by
  intro d
  induction d with
  | zero =>
    intro j fu hj hfu
    have hj : j = i := hj
    subst hj
    obtain ⟨fu, rfl⟩ : ∃ m, fu = m + 1 := ⟨fu - 1, by omega⟩
    rw [e_X9_crossed_39]
    simp (disch := omega) only [↓reduceIte, ic_t, ic_f, not_true_eq_false, not_false_eq_true, ↓lt_v, rdR, rdE, rdS, leT, leTc, leTd, leF, leFc, leFd, ltT, ltTc, ltTd, ltF, ltFc, ltFd, eqT, eqTc, eqTd, eqF, eqFc, eqFd, m1T, m1F, m1T', m1F', inb_nI, ix_nI, inb_c, ix_c, nI_1, nI_pred, nI_m1, add_nIc, add_cnI, bd_v, reduceCtorEq, eqFcc, m1e0, m1e1, m1l0, m1g0, m2l0, m2g0, Int32.reduceLT, Int32.reduceLE, Int32.reduceAdd, Int32.reduceSub, Int32.reduceMul, eq_self, Bool.false_eq_true]
  | succ d ih =>
    intro j fu hj hfu
    obtain ⟨fu, rfl⟩ : ∃ m, fu = m + 1 := ⟨fu - 1, by omega⟩
    obtain ⟨p1, p2⟩ := hh i hi
    obtain ⟨q1, q2⟩ := hh j (by omega)
    have ih := ih (j + 1) fu (by omega) (by omega)
    have es : sm (j + 1) (fun j => if h j ≤ h i then 0 else 1) = sm j (fun j => if h j ≤ h i then 0 else 1) + (if h j ≤ h i then 0 else 1) := rfl
    have hb := sm_le1 (f := fun j => if h j ≤ h i then 0 else 1) (fun k => by show (if h k ≤ h i then 0 else 1) ≤ 1; split <;> omega) j
    generalize sm j (fun j => if h j ≤ h i then 0 else 1) = z at es hb ⊢
    rw [es] at ih
    rw [← ih, e_X9_crossed_39]
    by_cases c1 : h j ≤ h i
    · rw [if_pos c1]
      simp (disch := omega) only [↓reduceIte, ic_t, ic_f, not_true_eq_false, not_false_eq_true, ↓lt_v, rdR, rdE, rdS, leT, leTc, leTd, leF, leFc, leFd, ltT, ltTc, ltTd, ltF, ltFc, ltFd, eqT, eqTc, eqTd, eqF, eqFc, eqFd, m1T, m1F, m1T', m1F', inb_nI, ix_nI, inb_c, ix_c, nI_1, nI_pred, nI_m1, add_nIc, add_cnI, bd_v, reduceCtorEq, eqFcc, m1e0, m1e1, m1l0, m1g0, m2l0, m2g0, Int32.reduceLT, Int32.reduceLE, Int32.reduceAdd, Int32.reduceSub, Int32.reduceMul, eq_self, Bool.false_eq_true, p1, q1]
      rfl
    · rw [if_neg c1]
      simp (disch := omega) only [↓reduceIte, ic_t, ic_f, not_true_eq_false, not_false_eq_true, ↓lt_v, rdR, rdE, rdS, leT, leTc, leTd, leF, leFc, leFd, ltT, ltTc, ltTd, ltF, ltFc, ltFd, eqT, eqTc, eqTd, eqF, eqFc, eqFd, m1T, m1F, m1T', m1F', inb_nI, ix_nI, inb_c, ix_c, nI_1, nI_pred, nI_m1, add_nIc, add_cnI, bd_v, reduceCtorEq, eqFcc, m1e0, m1e1, m1l0, m1g0, m2l0, m2g0, Int32.reduceLT, Int32.reduceLE, Int32.reduceAdd, Int32.reduceSub, Int32.reduceMul, eq_self, Bool.false_eq_true, p1, q1]
      rfl
theorem tr_le {F : Nat → Nat → Nat} (h : ∀ i j, F i j ≤ 1) : ∀ n, tr n F ≤ n * n
  | 0 => Nat.le_refl _
  | n + 1 => by
    have h1 := tr_le h n
    have h2 := sm_le1 (f := fun j => F n j) (fun j => h n j) n
    show tr n F + sm n (fun j => F n j) ≤ (n + 1) * (n + 1)
    rw [Nat.add_mul, Nat.mul_add]
    omega
theorem c_cross25 {s : Mem} {n : Nat} {h : Nat → Nat} (hn : n ≤ 6) (e0 : s.1 6 0 = nI n) (hh : ∀ i, i < n → s.1 143 i = nI (h i) ∧ h i < 6) : fX9_crossed_25 FU 0 0 s = (fX9_tellFarthest s).bind fun q => some (nI (tr n (fun i j => if h j ≤ h i then 0 else 1)), q) := by
  have hFU : 2000 < FU := FU_big
  have hb : ∀ k, k ≤ n → tr k (fun i j => if h j ≤ h i then 0 else 1) ≤ 36 := fun k hk => by
    have h1 := tr_le (F := fun i j => if h j ≤ h i then 0 else 1) (fun i j => by show (if h j ≤ h i then 0 else 1) ≤ 1; split <;> omega) k
    have h2 : k * k ≤ 6 * 6 := Nat.mul_le_mul (by omega) (by omega)
    omega
  have go : ∀ k, k ≤ n → fX9_crossed_25 FU 0 0 s = fX9_crossed_25 (FU - k) (nI (tr k (fun i j => if h j ≤ h i then 0 else 1))) (nI k) s := by
    intro k
    induction k with
    | zero => intro _; rfl
    | succ k ih =>
      intro hk
      rw [ih (by omega), show FU - k = (FU - (k + 1)) + 1 by omega, e_X9_crossed_25]
      simp (disch := omega) only [↓reduceIte, ic_t, ic_f, not_true_eq_false, not_false_eq_true, ↓lt_v, rdR, rdE, rdS, leT, leTc, leTd, leF, leFc, leFd, ltT, ltTc, ltTd, ltF, ltFc, ltFd, eqT, eqTc, eqTd, eqF, eqFc, eqFd, m1T, m1F, m1T', m1F', inb_nI, ix_nI, inb_c, ix_c, nI_1, nI_pred, nI_m1, add_nIc, add_cnI, bd_v, reduceCtorEq, eqFcc, m1e0, m1e1, m1l0, m1g0, m2l0, m2g0, Int32.reduceLT, Int32.reduceLE, Int32.reduceAdd, Int32.reduceSub, Int32.reduceMul, eq_self, Bool.false_eq_true, e0]
      have := c_cross39 (i := k) (k25 := fX9_crossed_25 (FU - (k + 1))) (c := tr k (fun i j => if h j ≤ h i then 0 else 1)) hn (by omega) (by have := hb k (by omega); omega) hh k 0 FU (by omega) (by omega)
      exact this
  rw [go n (Nat.le_refl _), show FU - n = (FU - (n + 1)) + 1 by omega, e_X9_crossed_25]
  simp (disch := omega) only [↓reduceIte, ic_t, ic_f, not_true_eq_false, not_false_eq_true, ↓lt_v, rdR, rdE, rdS, leT, leTc, leTd, leF, leFc, leFd, ltT, ltTc, ltTd, ltF, ltFc, ltFd, eqT, eqTc, eqTd, eqF, eqFc, eqFd, m1T, m1F, m1T', m1F', inb_nI, ix_nI, inb_c, ix_c, nI_1, nI_pred, nI_m1, add_nIc, add_cnI, bd_v, reduceCtorEq, eqFcc, m1e0, m1e1, m1l0, m1g0, m2l0, m2g0, Int32.reduceLT, Int32.reduceLE, Int32.reduceAdd, Int32.reduceSub, Int32.reduceMul, eq_self, Bool.false_eq_true, e0]
