/-! PURE: pulls, crews -/
def plG (W : Nat → Nat) (k left : Nat) (p : Nat) : Bool := decide ((p + 1 ≤ k ∨ (p + 1) * 2 = left) ∧ W (left - (p + 1)) = 0)
def wn (k : Nat) : Nat → Nat → Nat
  | 0 => fun i => if i = 0 then 1 else 0
  | j + 1 => up1 (wn k j) (j + 1) (nx (plG (wn k j) k (j + 1)) (j + 1) (j + 1))
theorem nx_cg {G H : Nat → Bool} {m : Nat} : ∀ d, d ≤ m → (∀ j, j < m → G j = H j) → nx G m d = nx H m d
  | 0, _, _ => rfl
  | d + 1, hd, h => by
    unfold nx
    rw [h (m - (d + 1)) (by omega), nx_cg d (by omega) h]
theorem wn_same {k : Nat} : ∀ j i, i ≤ j → wn k (j + 1) i = wn k j i := fun j i hi => up1_n (by omega)
theorem wn_st {k : Nat} {i : Nat} : ∀ d, wn k (i + d) i = wn k i i
  | 0 => rfl
  | d + 1 => by rw [show i + (d + 1) = (i + d) + 1 by omega, wn_same _ _ (by omega)]; exact wn_st d
theorem pw_eq {k n : Nat} (hn : 0 < n) : nx (plG (wn k n) k n) n n = wn k n n := by
  obtain ⟨m, rfl⟩ : ∃ m, n = m + 1 := ⟨n - 1, by omega⟩
  rw [show wn k (m + 1) (m + 1) = nx (plG (wn k m) k (m + 1)) (m + 1) (m + 1) from up1_e rfl]
  refine nx_cg _ (Nat.le_refl _) (fun j hj => ?_)
  unfold plG
  rw [wn_same m _ (by omega)]
theorem wn_le {k : Nat} : ∀ j i, wn k j i ≤ i + 1
  | 0, i => by unfold wn; split <;> omega
  | j + 1, i => by
    unfold wn up1
    split
    · rename_i e
      have := nx_le (plG (wn k j) k (j + 1)) (j + 1) (j + 1) (Nat.le_refl _)
      omega
    · exact wn_le j i
theorem dbl {p left : Nat} (hp : p ≤ 60) (hl : left ≤ 60) : (nI p * 2 = nI left) = (p * 2 = left) := by
  have h : ∀ p, p < 61 → nI p * 2 = nI (p * 2) := by decide +kernel
  rw [h p (by omega), eq_nI (by omega) (by omega)]
theorem sub_nI {a b : Nat} (h : b ≤ a) : nI a - nI b = nI (a - b) := by
  have h2 : nI a = nI (a - b) + nI b := by rw [nI_add]; congr 1; omega
  rw [h2]
  exact Int32.add_sub_cancel _ _
theorem c_win {M : Mem} {W : Nat → Nat} {k left : Nat} (hk : k ≤ 9) (hl : left ≤ 60) (hW : ∀ i, i < left → M.1 145 i = bI (decide (¬ W i = 0))) : fX9_winningPull (nI left) (nI k) M = some (nI (nx (plG W k left) left left), M) := by
  have h : ∀ (d fu : Nat), d < fu → d ≤ left → fX9_winningPull_2 fu (nI left) (nI k) (nI (left - d + 1)) M = some (nI (nx (plG W k left) left d), M) := by
    intro d
    induction d with
    | zero =>
      intro fu hf _
      obtain ⟨fu, rfl⟩ : ∃ m, fu = m + 1 := ⟨fu - 1, by omega⟩
      rw [e_X9_winningPull_2]
      simp (disch := omega) only [↓reduceIte, ic_t, ic_f, not_true_eq_false, not_false_eq_true, ↓lt_v, rdR, rdE, rdS, leT, leTc, leTd, leF, leFc, leFd, ltT, ltTc, ltTd, ltF, ltFc, ltFd, eqT, eqTc, eqTd, eqF, eqFc, eqFd, m1T, m1F, m1T', m1F', inb_nI, ix_nI, inb_c, ix_c, nI_1, nI_pred, nI_m1, add_nIc, add_cnI, bd_v, reduceCtorEq, eqFcc, m1e0, m1e1, m1l0, m1g0, m2l0, m2g0, Int32.reduceLT, Int32.reduceLE, Int32.reduceAdd, Int32.reduceSub, Int32.reduceMul, eq_self, Bool.false_eq_true, nx]; rfl
    | succ d ih =>
      intro fu hf hd
      obtain ⟨fu, rfl⟩ : ∃ m, fu = m + 1 := ⟨fu - 1, by omega⟩
      have e : left - (d + 1) + 1 = left - d := by omega
      have hw := hW (left - (left - d)) (by omega)
      have e2 : left - (d + 1) + 1 + 1 = left - d + 1 := by omega
      have hr := ih fu (by omega) (by omega)
      have yes : ∀ s : Prop, plG W k left (left - (d + 1)) = true → (nI (nx (plG W k left) left (d + 1)) = nI (left - d)) := by
        intro s hg
        unfold nx
        rw [hg, if_pos rfl, e]
      have no : plG W k left (left - (d + 1)) = false → nx (plG W k left) left (d + 1) = nx (plG W k left) left d := by
        intro hg
        show (if plG W k left (left - (d + 1)) then _ else _) = _
        rw [hg]
        simp
      have may : Ok (fX9_winningPull_19 (fX9_winningPull_2 fu) (nI left) (nI k) (nI (left - d)) M) (fun q => (left - d ≤ k ∨ (left - d) * 2 = left) → q = (nI (nx (plG W k left) left (d + 1)), M)) := by
        rw [e_X9_winningPull_19]
        simp (disch := omega) only [↓reduceIte, ic_t, ic_f, not_true_eq_false, not_false_eq_true, ↓lt_v, rdR, rdE, rdS, leT, leTc, leTd, leF, leFc, leFd, ltT, ltTc, ltTd, ltF, ltFc, ltFd, eqT, eqTc, eqTd, eqF, eqFc, eqFd, m1T, m1F, m1T', m1F', inb_nI, ix_nI, inb_c, ix_c, nI_1, nI_pred, nI_m1, add_nIc, add_cnI, bd_v, reduceCtorEq, eqFcc, m1e0, m1e1, m1l0, m1g0, m2l0, m2g0, Int32.reduceLT, Int32.reduceLE, Int32.reduceAdd, Int32.reduceSub, Int32.reduceMul, eq_self, Bool.false_eq_true, e_X9_winningPull_24, sub_nI, hw, bI_0]
        by_cases h0 : W (left - (left - d)) = 0
        · rw [decide_eq_false (fun q => q h0)]
          simp (disch := omega) only [↓reduceIte, ic_t, ic_f, not_true_eq_false, not_false_eq_true, ↓lt_v, rdR, rdE, rdS, leT, leTc, leTd, leF, leFc, leFd, ltT, ltTc, ltTd, ltF, ltFc, ltFd, eqT, eqTc, eqTd, eqF, eqFc, eqFd, m1T, m1F, m1T', m1F', inb_nI, ix_nI, inb_c, ix_c, nI_1, nI_pred, nI_m1, add_nIc, add_cnI, bd_v, reduceCtorEq, eqFcc, m1e0, m1e1, m1l0, m1g0, m2l0, m2g0, Int32.reduceLT, Int32.reduceLE, Int32.reduceAdd, Int32.reduceSub, Int32.reduceMul, eq_self, Bool.false_eq_true]
          refine ok_some (fun hm => ?_)
          rw [yes True (decide_eq_true ⟨by rw [e]; exact hm, by rw [e]; exact h0⟩)]
        · rw [decide_eq_true h0]
          simp (disch := omega) only [↓reduceIte, ic_t, ic_f, not_true_eq_false, not_false_eq_true, ↓lt_v, rdR, rdE, rdS, leT, leTc, leTd, leF, leFc, leFd, ltT, ltTc, ltTd, ltF, ltFc, ltFd, eqT, eqTc, eqTd, eqF, eqFc, eqFd, m1T, m1F, m1T', m1F', inb_nI, ix_nI, inb_c, ix_c, nI_1, nI_pred, nI_m1, add_nIc, add_cnI, bd_v, reduceCtorEq, eqFcc, m1e0, m1e1, m1l0, m1g0, m2l0, m2g0, Int32.reduceLT, Int32.reduceLE, Int32.reduceAdd, Int32.reduceSub, Int32.reduceMul, eq_self, Bool.false_eq_true, hr]
          refine ok_some (fun hm => ?_)
          rw [no (decide_eq_false (fun q => h0 (by rw [← e]; exact q.2)))]
      rw [e_X9_winningPull_2, e]
      by_cases h1 : left - d ≤ k
      · simp (disch := omega) only [↓reduceIte, ic_t, ic_f, not_true_eq_false, not_false_eq_true, ↓lt_v, rdR, rdE, rdS, leT, leTc, leTd, leF, leFc, leFd, ltT, ltTc, ltTd, ltF, ltFc, ltFd, eqT, eqTc, eqTd, eqF, eqFc, eqFd, m1T, m1F, m1T', m1F', inb_nI, ix_nI, inb_c, ix_c, nI_1, nI_pred, nI_m1, add_nIc, add_cnI, bd_v, reduceCtorEq, eqFcc, m1e0, m1e1, m1l0, m1g0, m2l0, m2g0, Int32.reduceLT, Int32.reduceLE, Int32.reduceAdd, Int32.reduceSub, Int32.reduceMul, eq_self, Bool.false_eq_true]
        obtain ⟨q, q1, q2⟩ := may
        rw [q1, q2 (Or.inl h1)]
      · simp (disch := omega) only [↓reduceIte, ic_t, ic_f, not_true_eq_false, not_false_eq_true, ↓lt_v, rdR, rdE, rdS, leT, leTc, leTd, leF, leFc, leFd, ltT, ltTc, ltTd, ltF, ltFc, ltFd, eqT, eqTc, eqTd, eqF, eqFc, eqFd, m1T, m1F, m1T', m1F', inb_nI, ix_nI, inb_c, ix_c, nI_1, nI_pred, nI_m1, add_nIc, add_cnI, bd_v, reduceCtorEq, eqFcc, m1e0, m1e1, m1l0, m1g0, m2l0, m2g0, Int32.reduceLT, Int32.reduceLE, Int32.reduceAdd, Int32.reduceSub, Int32.reduceMul, eq_self, Bool.false_eq_true, dbl]
        by_cases h2 : (left - d) * 2 = left
        · rw [ic_pos h2]
          obtain ⟨q, q1, q2⟩ := may
          rw [q1, q2 (Or.inr h2)]
        · rw [ic_neg h2]
          simp (disch := omega) only [↓reduceIte, ic_t, ic_f, not_true_eq_false, not_false_eq_true, ↓lt_v, rdR, rdE, rdS, leT, leTc, leTd, leF, leFc, leFd, ltT, ltTc, ltTd, ltF, ltFc, ltFd, eqT, eqTc, eqTd, eqF, eqFc, eqFd, m1T, m1F, m1T', m1F', inb_nI, ix_nI, inb_c, ix_c, nI_1, nI_pred, nI_m1, add_nIc, add_cnI, bd_v, reduceCtorEq, eqFcc, m1e0, m1e1, m1l0, m1g0, m2l0, m2g0, Int32.reduceLT, Int32.reduceLE, Int32.reduceAdd, Int32.reduceSub, Int32.reduceMul, eq_self, Bool.false_eq_true, e_X9_winningPull_24, hr]
          rw [no (decide_eq_false (fun q => by rw [e] at q; exact q.1.elim h1 h2))]
  have := h left FU (FU_gt (by omega)) (Nat.le_refl _)
  rw [e_X9_winningPull]
  rw [Nat.sub_self] at this
  exact this
theorem c_pulls {M : Mem} {n k : Nat} (hn : n ≤ 60) (hk1 : 2 ≤ k) (hk : k ≤ 9) : Ok (fX9_pulls (nI n) (nI k) M) (QC (nI (if n = 0 then 0 else wn k n n)) none M) := by
  rw [e_X9_pulls]
  simp (disch := omega) only [↓reduceIte, ic_t, ic_f, not_true_eq_false, not_false_eq_true, ↓lt_v, rdR, rdE, rdS, leT, leTc, leTd, leF, leFc, leFd, ltT, ltTc, ltTd, ltF, ltFc, ltFd, eqT, eqTc, eqTd, eqF, eqFc, eqFd, m1T, m1F, m1T', m1F', inb_nI, ix_nI, inb_c, ix_c, nI_1, nI_pred, nI_m1, add_nIc, add_cnI, bd_v, reduceCtorEq, eqFcc, m1e0, m1e1, m1l0, m1g0, m2l0, m2g0, Int32.reduceLT, Int32.reduceLE, Int32.reduceAdd, Int32.reduceSub, Int32.reduceMul, eq_self, Bool.false_eq_true, nn11]
  have hFU : 2000 < FU := FU_big
  generalize FU = fu0 at hFU ⊢
  refine ok_loop (n + 1) (fun fu j (s : Mem) => fX9_pulls_32 fu (nI n) (nI k) (nI j) s) (fun j s => 1 ≤ j ∧ (∀ i, i < j → s.1 145 i = bI (decide (¬ wn k (j - 1) i = 0))) ∧ Fr SC M s) ?_ ?_ fu0 1 _ (by omega) (by omega) ⟨Nat.le_refl _, fun i hi => ?_, fr_sI (by unfold SC; omega)⟩
  · intro fu j s hj hs ih
    obtain ⟨b0, b1, b2⟩ := hs
    obtain ⟨e, rfl⟩ : ∃ e, j = e + 1 := ⟨j - 1, by omega⟩
    simp only [Nat.add_sub_cancel] at b1 ih
    have hw := c_win (left := e + 1) hk (by omega) b1
    have hxl := nx_le (plG (wn k e) k (e + 1)) (e + 1) (e + 1) (Nat.le_refl _)
    have fin : ∀ z, z = bI (decide (¬ nx (plG (wn k e) k (e + 1)) (e + 1) (e + 1) = 0)) → Ok (fX9_pulls_32 fu (nI n) (nI k) (nI (e + 1 + 1)) (sI s 145 (e + 1) z)) (QC (nI (if n = 0 then 0 else wn k n n)) none M) := by
      intro z hz
      refine ih _ ⟨by omega, fun i hi => ?_, fr_trans b2 (fr_sI (by unfold SC; omega))⟩
      by_cases ei : i = e + 1
      · subst ei
        simp (disch := omega) only [↓reduceIte, ic_t, ic_f, not_true_eq_false, not_false_eq_true, ↓lt_v, rdR, rdE, rdS, leT, leTc, leTd, leF, leFc, leFd, ltT, ltTc, ltTd, ltF, ltFc, ltFd, eqT, eqTc, eqTd, eqF, eqFc, eqFd, m1T, m1F, m1T', m1F', inb_nI, ix_nI, inb_c, ix_c, nI_1, nI_pred, nI_m1, add_nIc, add_cnI, bd_v, reduceCtorEq, eqFcc, m1e0, m1e1, m1l0, m1g0, m2l0, m2g0, Int32.reduceLT, Int32.reduceLE, Int32.reduceAdd, Int32.reduceSub, Int32.reduceMul, eq_self, Bool.false_eq_true, hz]
        rw [show wn k (e + 1) (e + 1) = nx (plG (wn k e) k (e + 1)) (e + 1) (e + 1) from up1_e rfl]
      · simp (disch := omega) only [↓reduceIte, ic_t, ic_f, not_true_eq_false, not_false_eq_true, ↓lt_v, rdR, rdE, rdS, leT, leTc, leTd, leF, leFc, leFd, ltT, ltTc, ltTd, ltF, ltFc, ltFd, eqT, eqTc, eqTd, eqF, eqFc, eqFd, m1T, m1F, m1T', m1F', inb_nI, ix_nI, inb_c, ix_c, nI_1, nI_pred, nI_m1, add_nIc, add_cnI, bd_v, reduceCtorEq, eqFcc, m1e0, m1e1, m1l0, m1g0, m2l0, m2g0, Int32.reduceLT, Int32.reduceLE, Int32.reduceAdd, Int32.reduceSub, Int32.reduceMul, eq_self, Bool.false_eq_true]
        rw [b1 i (by omega), wn_same e i (by omega)]
    rw [e_X9_pulls_32]
    simp (disch := omega) only [↓reduceIte, ic_t, ic_f, not_true_eq_false, not_false_eq_true, ↓lt_v, rdR, rdE, rdS, leT, leTc, leTd, leF, leFc, leFd, ltT, ltTc, ltTd, ltF, ltFc, ltFd, eqT, eqTc, eqTd, eqF, eqFc, eqFd, m1T, m1F, m1T', m1F', inb_nI, ix_nI, inb_c, ix_c, nI_1, nI_pred, nI_m1, add_nIc, add_cnI, bd_v, reduceCtorEq, eqFcc, m1e0, m1e1, m1l0, m1g0, m2l0, m2g0, Int32.reduceLT, Int32.reduceLE, Int32.reduceAdd, Int32.reduceSub, Int32.reduceMul, eq_self, Bool.false_eq_true, hw]
    by_cases h0 : nx (plG (wn k e) k (e + 1)) (e + 1) (e + 1) = 0
    · simp (disch := omega) only [↓reduceIte, ic_t, ic_f, not_true_eq_false, not_false_eq_true, ↓lt_v, rdR, rdE, rdS, leT, leTc, leTd, leF, leFc, leFd, ltT, ltTc, ltTd, ltF, ltFc, ltFd, eqT, eqTc, eqTd, eqF, eqFc, eqFd, m1T, m1F, m1T', m1F', inb_nI, ix_nI, inb_c, ix_c, nI_1, nI_pred, nI_m1, add_nIc, add_cnI, bd_v, reduceCtorEq, eqFcc, m1e0, m1e1, m1l0, m1g0, m2l0, m2g0, Int32.reduceLT, Int32.reduceLE, Int32.reduceAdd, Int32.reduceSub, Int32.reduceMul, eq_self, Bool.false_eq_true, h0, nn01]
      exact fin _ (by rw [decide_eq_false (fun q => q h0)]; rfl)
    · simp (disch := omega) only [↓reduceIte, ic_t, ic_f, not_true_eq_false, not_false_eq_true, ↓lt_v, rdR, rdE, rdS, leT, leTc, leTd, leF, leFc, leFd, ltT, ltTc, ltTd, ltF, ltFc, ltFd, eqT, eqTc, eqTd, eqF, eqFc, eqFd, m1T, m1F, m1T', m1F', inb_nI, ix_nI, inb_c, ix_c, nI_1, nI_pred, nI_m1, add_nIc, add_cnI, bd_v, reduceCtorEq, eqFcc, m1e0, m1e1, m1l0, m1g0, m2l0, m2g0, Int32.reduceLT, Int32.reduceLE, Int32.reduceAdd, Int32.reduceSub, Int32.reduceMul, eq_self, Bool.false_eq_true, nn11]
      exact fin _ (by rw [decide_eq_true h0]; rfl)
  · intro fu s hs
    obtain ⟨b0, b1, b2⟩ := hs
    have hw := c_win (left := n) hk (by omega) (fun i hi => b1 i (by omega))
    rw [e_X9_pulls_32]
    simp (disch := omega) only [↓reduceIte, ic_t, ic_f, not_true_eq_false, not_false_eq_true, ↓lt_v, rdR, rdE, rdS, leT, leTc, leTd, leF, leFc, leFd, ltT, ltTc, ltTd, ltF, ltFc, ltFd, eqT, eqTc, eqTd, eqF, eqFc, eqFd, m1T, m1F, m1T', m1F', inb_nI, ix_nI, inb_c, ix_c, nI_1, nI_pred, nI_m1, add_nIc, add_cnI, bd_v, reduceCtorEq, eqFcc, m1e0, m1e1, m1l0, m1g0, m2l0, m2g0, Int32.reduceLT, Int32.reduceLE, Int32.reduceAdd, Int32.reduceSub, Int32.reduceMul, eq_self, Bool.false_eq_true, hw]
    have e : nx (plG (wn k (n + 1 - 1)) k n) n n = if n = 0 then 0 else wn k n n := by
      by_cases h0 : n = 0
      · subst h0; rfl
      · rw [if_neg h0]; exact pw_eq (by omega)
    rw [e]
    exact ok_some (qc_none b2)
  · have : i = 0 := by omega
    subst this
    simp (disch := omega) only [↓reduceIte, ic_t, ic_f, not_true_eq_false, not_false_eq_true, ↓lt_v, rdR, rdE, rdS, leT, leTc, leTd, leF, leFc, leFd, ltT, ltTc, ltTd, ltF, ltFc, ltFd, eqT, eqTc, eqTd, eqF, eqFc, eqFd, m1T, m1F, m1T', m1F', inb_nI, ix_nI, inb_c, ix_c, nI_1, nI_pred, nI_m1, add_nIc, add_cnI, bd_v, reduceCtorEq, eqFcc, m1e0, m1e1, m1l0, m1g0, m2l0, m2g0, Int32.reduceLT, Int32.reduceLE, Int32.reduceAdd, Int32.reduceSub, Int32.reduceMul, eq_self, Bool.false_eq_true]
    rfl
theorem hlf {l : Nat} (h : l ≤ 60) : (nI l / 2 = nI (l / 2)) ∧ (nI l - nI (l / 2) * 2 = nI (l % 2)) := by
  have h' : ∀ l, l < 61 → (nI l / 2 = nI (l / 2)) ∧ (nI l - nI (l / 2) * 2 = nI (l % 2)) := by decide +kernel
  exact h' l (by omega)
theorem r_pulls {M : Mem} {n k : Nat} (hn : n ≤ 60) (hk1 : 2 ≤ k) (hk : k ≤ 9) : Ok (fX10_pulls (nI n) (nI k) M) (QR (nI (if n = 0 then 0 else wn k n n)) none M) := by
  have hi1 : ∀ M : Mem, fX10_in (nI n).toInt64 0 60 M = some (1, M) := fun M => by rw [r_inI (lo := 0) (hi := 60) (by decide) (by decide), nI_toInt (by omega), if_pos (by omega)]
  have hi2 : ∀ M : Mem, fX10_in (nI k).toInt64 2 9 M = some (1, M) := fun M => by rw [r_inI (lo := 2) (hi := 9) (by decide) (by decide), nI_toInt (by omega), if_pos (by omega)]
  rw [e_X10_pulls]
  simp (disch := omega) only [↓reduceIte, ic_t, ic_f, not_true_eq_false, not_false_eq_true, ↓lt_v, rdR, rdE, rdS, leT, leTc, leTd, leF, leFc, leFd, ltT, ltTc, ltTd, ltF, ltFc, ltFd, eqT, eqTc, eqTd, eqF, eqFc, eqFd, m1T, m1F, m1T', m1F', inb_nI, ix_nI, inb_c, ix_c, nI_1, nI_pred, nI_m1, add_nIc, add_cnI, bd_v, reduceCtorEq, eqFcc, m1e0, m1e1, m1l0, m1g0, m2l0, m2g0, Int32.reduceLT, Int32.reduceLE, Int32.reduceAdd, Int32.reduceSub, Int32.reduceMul, eq_self, Bool.false_eq_true, hi1, hi2]
  have hFU : 2000 < FU := FU_big
  generalize FU = fu0 at hFU ⊢
  refine ok_loop (n + 1) (fun fu j (s : Mem) => fX10_pulls_42 fu (nI n) (nI k) (nI j) s) (fun j s => 1 ≤ j ∧ (∀ i, i < j → s.1 200 i = nI (wn k (j - 1) i)) ∧ FrR SR SS1 M s) ?_ ?_ fu0 1 _ (by omega) (by omega) ⟨Nat.le_refl _, fun i hi => ?_, by unfold SR SS1 SS; repeat (first | exact frR_rfl | refine frR_trans ?_ (frR_sI (by omega) (by omega)))⟩
  · intro fu j s hj hs ih
    obtain ⟨b0, b1, b2⟩ := hs
    obtain ⟨e, rfl⟩ : ∃ e, j = e + 1 := ⟨j - 1, by omega⟩
    simp only [Nat.add_sub_cancel] at b1 ih
    obtain ⟨q1, q2⟩ := hlf (l := e + 1) (by omega)
    have inner : ∀ (half : Nat) (s1 : Mem), half ≤ 60 → (∀ t, 1 ≤ t → t ≤ e + 1 → (t = half ↔ t * 2 = e + 1)) → s1 = sI s 200 (e + 1) 0 → Ok (fX10_pulls_72 (fX10_pulls_42 fu) FU (nI n) (nI k) (nI (e + 1)) (nI half) (nI (e + 1)) s1) (QR (nI (if n = 0 then 0 else wn k n n)) none M) := by
      intro half s1 hh hhalf hs1
      generalize hg : fX10_pulls_42 fu = gg at ih ⊢
      have hFU2 : 2000 < FU := FU_big
      generalize FU = fu1 at hFU2 ⊢
      refine ok_loop (e + 1) (fun fu d (s : Mem) => fX10_pulls_72 gg fu (nI n) (nI k) (nI (e + 1)) (nI half) (nI (e + 1 - d)) s) (fun d s' => (∀ i, i < e + 1 → s'.1 200 i = nI (wn k e i)) ∧ s'.1 200 (e + 1) = nI (nx (plG (wn k e) k (e + 1)) (e + 1) d) ∧ FrR SR SS1 M s') ?_ ?_ fu1 0 s1 (by omega) (by omega) ⟨fun i hi => ?_, ?_, ?_⟩
      · intro fu d s' hd hs' ih'
        obtain ⟨k1, k2, k3⟩ := hs'
        obtain ⟨t, ht⟩ : ∃ t, e + 1 - d = t + 1 := ⟨e - d, by omega⟩
        have ht2 : e + 1 - (d + 1) = t := by omega
        have hnx : nx (plG (wn k e) k (e + 1)) (e + 1) (d + 1) = if plG (wn k e) k (e + 1) t then t + 1 else nx (plG (wn k e) k (e + 1)) (e + 1) d := by
          show (if plG (wn k e) k (e + 1) (e + 1 - (d + 1)) then e + 1 - (d + 1) + 1 else _) = _
          rw [ht2]
        have hx := k1 (e + 1 - (t + 1)) (by omega)
        have hwl := wn_le (k := k) e (e + 1 - (t + 1))
        have upd : ∀ z, z = nI (nx (plG (wn k e) k (e + 1)) (e + 1) (d + 1)) → Ok (fX10_pulls_72 gg fu (nI n) (nI k) (nI (e + 1)) (nI half) (nI t) (sI s' 200 (e + 1) z)) (QR (nI (if n = 0 then 0 else wn k n n)) none M) := by
          intro z hz
          have := ih' (sI s' 200 (e + 1) z) ⟨fun i hi => by simp (disch := omega) only [↓reduceIte, ic_t, ic_f, not_true_eq_false, not_false_eq_true, ↓lt_v, rdR, rdE, rdS, leT, leTc, leTd, leF, leFc, leFd, ltT, ltTc, ltTd, ltF, ltFc, ltFd, eqT, eqTc, eqTd, eqF, eqFc, eqFd, m1T, m1F, m1T', m1F', inb_nI, ix_nI, inb_c, ix_c, nI_1, nI_pred, nI_m1, add_nIc, add_cnI, bd_v, reduceCtorEq, eqFcc, m1e0, m1e1, m1l0, m1g0, m2l0, m2g0, Int32.reduceLT, Int32.reduceLE, Int32.reduceAdd, Int32.reduceSub, Int32.reduceMul, eq_self, Bool.false_eq_true]; exact k1 i hi, by simp (disch := omega) only [↓reduceIte, ic_t, ic_f, not_true_eq_false, not_false_eq_true, ↓lt_v, rdR, rdE, rdS, leT, leTc, leTd, leF, leFc, leFd, ltT, ltTc, ltTd, ltF, ltFc, ltFd, eqT, eqTc, eqTd, eqF, eqFc, eqFd, m1T, m1F, m1T', m1F', inb_nI, ix_nI, inb_c, ix_c, nI_1, nI_pred, nI_m1, add_nIc, add_cnI, bd_v, reduceCtorEq, eqFcc, m1e0, m1e1, m1l0, m1g0, m2l0, m2g0, Int32.reduceLT, Int32.reduceLE, Int32.reduceAdd, Int32.reduceSub, Int32.reduceMul, eq_self, Bool.false_eq_true, hz], frR_trans k3 (frR_sI (by unfold SR; omega) (by omega))⟩
          rw [ht2] at this
          exact this
        have may : (t + 1 ≤ k ∨ t + 1 = half) → Ok (fX10_pulls_90 (fX10_pulls_72 gg fu) (nI n) (nI k) (nI (e + 1)) (nI half) (nI (t + 1)) s') (QR (nI (if n = 0 then 0 else wn k n n)) none M) := by
          intro hm
          have hm2 : t + 1 ≤ k ∨ (t + 1) * 2 = e + 1 := hm.imp id (fun h => (hhalf (t + 1) (by omega) (by omega)).mp h)
          rw [e_X10_pulls_90]
          by_cases h0 : wn k e (e + 1 - (t + 1)) = 0
          · simp (disch := omega) only [↓reduceIte, ic_t, ic_f, not_true_eq_false, not_false_eq_true, ↓lt_v, rdR, rdE, rdS, leT, leTc, leTd, leF, leFc, leFd, ltT, ltTc, ltTd, ltF, ltFc, ltFd, eqT, eqTc, eqTd, eqF, eqFc, eqFd, m1T, m1F, m1T', m1F', inb_nI, ix_nI, inb_c, ix_c, nI_1, nI_pred, nI_m1, add_nIc, add_cnI, bd_v, reduceCtorEq, eqFcc, m1e0, m1e1, m1l0, m1g0, m2l0, m2g0, Int32.reduceLT, Int32.reduceLE, Int32.reduceAdd, Int32.reduceSub, Int32.reduceMul, eq_self, Bool.false_eq_true, e_X10_pulls_95, sub_nI, hx, h0]
            refine upd _ ?_
            rw [hnx, show plG (wn k e) k (e + 1) t = true from decide_eq_true ⟨hm2, h0⟩, if_pos rfl]
          · simp (disch := omega) only [↓reduceIte, ic_t, ic_f, not_true_eq_false, not_false_eq_true, ↓lt_v, rdR, rdE, rdS, leT, leTc, leTd, leF, leFc, leFd, ltT, ltTc, ltTd, ltF, ltFc, ltFd, eqT, eqTc, eqTd, eqF, eqFc, eqFd, m1T, m1F, m1T', m1F', inb_nI, ix_nI, inb_c, ix_c, nI_1, nI_pred, nI_m1, add_nIc, add_cnI, bd_v, reduceCtorEq, eqFcc, m1e0, m1e1, m1l0, m1g0, m2l0, m2g0, Int32.reduceLT, Int32.reduceLE, Int32.reduceAdd, Int32.reduceSub, Int32.reduceMul, eq_self, Bool.false_eq_true, e_X10_pulls_95, sub_nI, hx]
            refine upd _ ?_
            rw [k2, hnx, show plG (wn k e) k (e + 1) t = false from decide_eq_false (fun q => h0 q.2)]
            simp
        rw [ht, e_X10_pulls_72]
        by_cases h1 : t + 1 ≤ k
        · simp (disch := omega) only [↓reduceIte, ic_t, ic_f, not_true_eq_false, not_false_eq_true, ↓lt_v, rdR, rdE, rdS, leT, leTc, leTd, leF, leFc, leFd, ltT, ltTc, ltTd, ltF, ltFc, ltFd, eqT, eqTc, eqTd, eqF, eqFc, eqFd, m1T, m1F, m1T', m1F', inb_nI, ix_nI, inb_c, ix_c, nI_1, nI_pred, nI_m1, add_nIc, add_cnI, bd_v, reduceCtorEq, eqFcc, m1e0, m1e1, m1l0, m1g0, m2l0, m2g0, Int32.reduceLT, Int32.reduceLE, Int32.reduceAdd, Int32.reduceSub, Int32.reduceMul, eq_self, Bool.false_eq_true]
          exact may (Or.inl h1)
        · by_cases h2 : t + 1 = half
          · simp (disch := omega) only [↓reduceIte, ic_t, ic_f, not_true_eq_false, not_false_eq_true, ↓lt_v, rdR, rdE, rdS, leT, leTc, leTd, leF, leFc, leFd, ltT, ltTc, ltTd, ltF, ltFc, ltFd, eqT, eqTc, eqTd, eqF, eqFc, eqFd, m1T, m1F, m1T', m1F', inb_nI, ix_nI, inb_c, ix_c, nI_1, nI_pred, nI_m1, add_nIc, add_cnI, bd_v, reduceCtorEq, eqFcc, m1e0, m1e1, m1l0, m1g0, m2l0, m2g0, Int32.reduceLT, Int32.reduceLE, Int32.reduceAdd, Int32.reduceSub, Int32.reduceMul, eq_self, Bool.false_eq_true]
            exact may (Or.inr h2)
          · simp (disch := omega) only [↓reduceIte, ic_t, ic_f, not_true_eq_false, not_false_eq_true, ↓lt_v, rdR, rdE, rdS, leT, leTc, leTd, leF, leFc, leFd, ltT, ltTc, ltTd, ltF, ltFc, ltFd, eqT, eqTc, eqTd, eqF, eqFc, eqFd, m1T, m1F, m1T', m1F', inb_nI, ix_nI, inb_c, ix_c, nI_1, nI_pred, nI_m1, add_nIc, add_cnI, bd_v, reduceCtorEq, eqFcc, m1e0, m1e1, m1l0, m1g0, m2l0, m2g0, Int32.reduceLT, Int32.reduceLE, Int32.reduceAdd, Int32.reduceSub, Int32.reduceMul, eq_self, Bool.false_eq_true, e_X10_pulls_95]
            refine upd _ ?_
            rw [k2, hnx, show plG (wn k e) k (e + 1) t = false from decide_eq_false (fun q => q.1.elim h1 (fun q => h2 ((hhalf (t + 1) (by omega) (by omega)).mpr q)))]
            simp
      · intro fu s' hs'
        obtain ⟨k1, k2, k3⟩ := hs'
        rw [e_X10_pulls_72, Nat.sub_self]
        simp (disch := omega) only [↓reduceIte, ic_t, ic_f, not_true_eq_false, not_false_eq_true, ↓lt_v, rdR, rdE, rdS, leT, leTc, leTd, leF, leFc, leFd, ltT, ltTc, ltTd, ltF, ltFc, ltFd, eqT, eqTc, eqTd, eqF, eqFc, eqFd, m1T, m1F, m1T', m1F', inb_nI, ix_nI, inb_c, ix_c, nI_1, nI_pred, nI_m1, add_nIc, add_cnI, bd_v, reduceCtorEq, eqFcc, m1e0, m1e1, m1l0, m1g0, m2l0, m2g0, Int32.reduceLT, Int32.reduceLE, Int32.reduceAdd, Int32.reduceSub, Int32.reduceMul, eq_self, Bool.false_eq_true]
        refine ih _ ⟨by omega, fun i hi => ?_, k3⟩
        by_cases ei : i = e + 1
        · subst ei
          rw [k2, show wn k (e + 1) (e + 1) = nx (plG (wn k e) k (e + 1)) (e + 1) (e + 1) from up1_e rfl]
        · rw [k1 i (by omega), wn_same e i (by omega)]
      · rw [hs1]
        simp (disch := omega) only [↓reduceIte, ic_t, ic_f, not_true_eq_false, not_false_eq_true, ↓lt_v, rdR, rdE, rdS, leT, leTc, leTd, leF, leFc, leFd, ltT, ltTc, ltTd, ltF, ltFc, ltFd, eqT, eqTc, eqTd, eqF, eqFc, eqFd, m1T, m1F, m1T', m1F', inb_nI, ix_nI, inb_c, ix_c, nI_1, nI_pred, nI_m1, add_nIc, add_cnI, bd_v, reduceCtorEq, eqFcc, m1e0, m1e1, m1l0, m1g0, m2l0, m2g0, Int32.reduceLT, Int32.reduceLE, Int32.reduceAdd, Int32.reduceSub, Int32.reduceMul, eq_self, Bool.false_eq_true]
        exact b1 i (by omega)
      · rw [hs1]
        simp (disch := omega) only [↓reduceIte, ic_t, ic_f, not_true_eq_false, not_false_eq_true, ↓lt_v, rdR, rdE, rdS, leT, leTc, leTd, leF, leFc, leFd, ltT, ltTc, ltTd, ltF, ltFc, ltFd, eqT, eqTc, eqTd, eqF, eqFc, eqFd, m1T, m1F, m1T', m1F', inb_nI, ix_nI, inb_c, ix_c, nI_1, nI_pred, nI_m1, add_nIc, add_cnI, bd_v, reduceCtorEq, eqFcc, m1e0, m1e1, m1l0, m1g0, m2l0, m2g0, Int32.reduceLT, Int32.reduceLE, Int32.reduceAdd, Int32.reduceSub, Int32.reduceMul, eq_self, Bool.false_eq_true]
        rfl
      · rw [hs1]
        exact frR_trans b2 (frR_sI (by unfold SR; omega) (by omega))
    rw [e_X10_pulls_42]
    simp (disch := omega) only [↓reduceIte, ic_t, ic_f, not_true_eq_false, not_false_eq_true, ↓lt_v, rdR, rdE, rdS, leT, leTc, leTd, leF, leFc, leFd, ltT, ltTc, ltTd, ltF, ltFc, ltFd, eqT, eqTc, eqTd, eqF, eqFc, eqFd, m1T, m1F, m1T', m1F', inb_nI, ix_nI, inb_c, ix_c, nI_1, nI_pred, nI_m1, add_nIc, add_cnI, bd_v, reduceCtorEq, eqFcc, m1e0, m1e1, m1l0, m1g0, m2l0, m2g0, Int32.reduceLT, Int32.reduceLE, Int32.reduceAdd, Int32.reduceSub, Int32.reduceMul, eq_self, Bool.false_eq_true, q2, q1]
    by_cases h2 : (e + 1) % 2 = 0
    · simp (disch := omega) only [↓reduceIte, ic_t, ic_f, not_true_eq_false, not_false_eq_true, ↓lt_v, rdR, rdE, rdS, leT, leTc, leTd, leF, leFc, leFd, ltT, ltTc, ltTd, ltF, ltFc, ltFd, eqT, eqTc, eqTd, eqF, eqFc, eqFd, m1T, m1F, m1T', m1F', inb_nI, ix_nI, inb_c, ix_c, nI_1, nI_pred, nI_m1, add_nIc, add_cnI, bd_v, reduceCtorEq, eqFcc, m1e0, m1e1, m1l0, m1g0, m2l0, m2g0, Int32.reduceLT, Int32.reduceLE, Int32.reduceAdd, Int32.reduceSub, Int32.reduceMul, eq_self, Bool.false_eq_true, h2]
      exact inner ((e + 1) / 2) _ (by omega) (fun t h1 h3 => by omega) rfl
    · simp (disch := omega) only [↓reduceIte, ic_t, ic_f, not_true_eq_false, not_false_eq_true, ↓lt_v, rdR, rdE, rdS, leT, leTc, leTd, leF, leFc, leFd, ltT, ltTc, ltTd, ltF, ltFc, ltFd, eqT, eqTc, eqTd, eqF, eqFc, eqFd, m1T, m1F, m1T', m1F', inb_nI, ix_nI, inb_c, ix_c, nI_1, nI_pred, nI_m1, add_nIc, add_cnI, bd_v, reduceCtorEq, eqFcc, m1e0, m1e1, m1l0, m1g0, m2l0, m2g0, Int32.reduceLT, Int32.reduceLE, Int32.reduceAdd, Int32.reduceSub, Int32.reduceMul, eq_self, Bool.false_eq_true]
      exact inner 0 _ (by omega) (fun t h1 h3 => by omega) rfl
  · intro fu s hs
    obtain ⟨b0, b1, b2⟩ := hs
    rw [e_X10_pulls_42]
    by_cases h0 : n = 0
    · subst h0
      simp (disch := omega) only [↓reduceIte, ic_t, ic_f, not_true_eq_false, not_false_eq_true, ↓lt_v, rdR, rdE, rdS, leT, leTc, leTd, leF, leFc, leFd, ltT, ltTc, ltTd, ltF, ltFc, ltFd, eqT, eqTc, eqTd, eqF, eqFc, eqFd, m1T, m1F, m1T', m1F', inb_nI, ix_nI, inb_c, ix_c, nI_1, nI_pred, nI_m1, add_nIc, add_cnI, bd_v, reduceCtorEq, eqFcc, m1e0, m1e1, m1l0, m1g0, m2l0, m2g0, Int32.reduceLT, Int32.reduceLE, Int32.reduceAdd, Int32.reduceSub, Int32.reduceMul, eq_self, Bool.false_eq_true]
      exact ok_some (qr_none b2)
    · have e := b1 n (by omega)
      simp (disch := omega) only [↓reduceIte, ic_t, ic_f, not_true_eq_false, not_false_eq_true, ↓lt_v, rdR, rdE, rdS, leT, leTc, leTd, leF, leFc, leFd, ltT, ltTc, ltTd, ltF, ltFc, ltFd, eqT, eqTc, eqTd, eqF, eqFc, eqFd, m1T, m1F, m1T', m1F', inb_nI, ix_nI, inb_c, ix_c, nI_1, nI_pred, nI_m1, add_nIc, add_cnI, bd_v, reduceCtorEq, eqFcc, m1e0, m1e1, m1l0, m1g0, m2l0, m2g0, Int32.reduceLT, Int32.reduceLE, Int32.reduceAdd, Int32.reduceSub, Int32.reduceMul, eq_self, Bool.false_eq_true, e]
      rw [if_neg h0]
      exact ok_some (qr_none b2)
  · have : i = 0 := by omega
    subst this
    simp (disch := omega) only [↓reduceIte, ic_t, ic_f, not_true_eq_false, not_false_eq_true, ↓lt_v, rdR, rdE, rdS, leT, leTc, leTd, leF, leFc, leFd, ltT, ltTc, ltTd, ltF, ltFc, ltFd, eqT, eqTc, eqTd, eqF, eqFc, eqFd, m1T, m1F, m1T', m1F', inb_nI, ix_nI, inb_c, ix_c, nI_1, nI_pred, nI_m1, add_nIc, add_cnI, bd_v, reduceCtorEq, eqFcc, m1e0, m1e1, m1l0, m1g0, m2l0, m2g0, Int32.reduceLT, Int32.reduceLE, Int32.reduceAdd, Int32.reduceSub, Int32.reduceMul, eq_self, Bool.false_eq_true]
    rfl
/-- crews -/
def gn (x y v : Int32) : Int32 := if x ≤ y then (if y ≤ x then (0 - x) - 0 else (0 - x) - 1) else (if y ≤ x then (v - x) - 0 else (v - x) - 1)
def bs (x y v : Nat) : Bool := decide (nx (fun z => decide (¬ gn (nI z) (nI y) (nI v) ≤ gn (nI x) (nI y) (nI v))) 10 10 = 0)
theorem c_gain {M : Mem} {x y v : Int32} : fX9_spurtGain x y v M = some (gn x y v, M) := by
  rw [e_X9_spurtGain]
  unfold gn
  by_cases h1 : x ≤ y
  · rw [ic_pos h1, if_pos h1, e_X9_spurtGain_10]
    by_cases h2 : y ≤ x
    · rw [ic_pos h2, if_pos h2]
    · rw [ic_neg h2, if_neg h2]
  · rw [ic_neg h1, if_neg h1, e_X9_spurtGain_10]
    by_cases h2 : y ≤ x
    · rw [ic_pos h2, if_pos h2]
    · rw [ic_neg h2, if_neg h2]
theorem r_gets {M : Mem} {x y v : Int32} : fX10_gets x y v M = some (gn x y v, M) := by
  have f0 : ∀ N : Mem, fX10_flag 0 N = some (0, N) := fun N => r_flagI (Or.inl rfl)
  have f1 : ∀ N : Mem, fX10_flag 1 N = some (1, N) := fun N => r_flagI (Or.inr rfl)
  rw [e_X10_gets]
  unfold gn
  by_cases h1 : x ≤ y
  · rw [ic_pos h1, if_pos h1, e_X10_gets_10]
    by_cases h2 : y ≤ x
    · rw [ic_pos h2, if_pos h2, e_X10_gets_22, f0]; rfl
    · rw [ic_neg h2, if_neg h2, e_X10_gets_22, f1]; rfl
  · rw [ic_neg h1, if_neg h1, e_X10_gets_10]
    by_cases h2 : y ≤ x
    · rw [ic_pos h2, if_pos h2, e_X10_gets_22, f0]; rfl
    · rw [ic_neg h2, if_neg h2, e_X10_gets_22, f1]; rfl
theorem c_best {M : Mem} {x y v : Nat} : fX9_isBestSpurt (nI x) (nI y) (nI v) M = some (bI (bs x y v), M) := by
  have : Ok (fX9_isBestSpurt (nI x) (nI y) (nI v) M) (fun q => q = (bI (bs x y v), M)) := by
    rw [e_X9_isBestSpurt]
    simp (disch := omega) only [↓reduceIte, ic_t, ic_f, not_true_eq_false, not_false_eq_true, ↓lt_v, rdR, rdE, rdS, leT, leTc, leTd, leF, leFc, leFd, ltT, ltTc, ltTd, ltF, ltFc, ltFd, eqT, eqTc, eqTd, eqF, eqFc, eqFd, m1T, m1F, m1T', m1F', inb_nI, ix_nI, inb_c, ix_c, nI_1, nI_pred, nI_m1, add_nIc, add_cnI, bd_v, reduceCtorEq, eqFcc, m1e0, m1e1, m1l0, m1g0, m2l0, m2g0, Int32.reduceLT, Int32.reduceLE, Int32.reduceAdd, Int32.reduceSub, Int32.reduceMul, eq_self, Bool.false_eq_true, c_gain]
    have hFU : 2000 < FU := FU_big
    generalize FU = fu0 at hFU ⊢
    refine ok_loop 10 (fun fu j (s : Mem) => fX9_isBestSpurt_10 fu (nI y) (nI v) (gn (nI x) (nI y) (nI v)) (nI j) s) (fun j s => s = M ∧ ∀ i, i < j → decide (¬ gn (nI i) (nI y) (nI v) ≤ gn (nI x) (nI y) (nI v)) = false) ?_ ?_ fu0 0 M (by omega) (by omega) ⟨rfl, fun i hi => absurd hi (Nat.not_lt_zero _)⟩
    · intro fu j s hj hs ih
      obtain ⟨rfl, hs⟩ := hs
      rw [e_X9_isBestSpurt_10]
      simp (disch := omega) only [↓reduceIte, ic_t, ic_f, not_true_eq_false, not_false_eq_true, ↓lt_v, rdR, rdE, rdS, leT, leTc, leTd, leF, leFc, leFd, ltT, ltTc, ltTd, ltF, ltFc, ltFd, eqT, eqTc, eqTd, eqF, eqFc, eqFd, m1T, m1F, m1T', m1F', inb_nI, ix_nI, inb_c, ix_c, nI_1, nI_pred, nI_m1, add_nIc, add_cnI, bd_v, reduceCtorEq, eqFcc, m1e0, m1e1, m1l0, m1g0, m2l0, m2g0, Int32.reduceLT, Int32.reduceLE, Int32.reduceAdd, Int32.reduceSub, Int32.reduceMul, eq_self, Bool.false_eq_true, c_gain]
      by_cases h : gn (nI j) (nI y) (nI v) ≤ gn (nI x) (nI y) (nI v)
      · rw [ic_pos h]
        refine ih _ ⟨rfl, fun i hi => ?_⟩
        by_cases ei : i = j
        · subst ei; exact decide_eq_false (fun q => q h)
        · exact hs i (by omega)
      · rw [ic_neg h]
        refine ok_some ?_
        unfold bs
        rw [nx1 hj (decide_eq_true h) hs, decide_eq_false (Nat.succ_ne_zero j)]
        rfl
    · intro fu s hs
      obtain ⟨rfl, hs⟩ := hs
      rw [e_X9_isBestSpurt_10]
      simp (disch := omega) only [↓reduceIte, ic_t, ic_f, not_true_eq_false, not_false_eq_true, ↓lt_v, rdR, rdE, rdS, leT, leTc, leTd, leF, leFc, leFd, ltT, ltTc, ltTd, ltF, ltFc, ltFd, eqT, eqTc, eqTd, eqF, eqFc, eqFd, m1T, m1F, m1T', m1F', inb_nI, ix_nI, inb_c, ix_c, nI_1, nI_pred, nI_m1, add_nIc, add_cnI, bd_v, reduceCtorEq, eqFcc, m1e0, m1e1, m1l0, m1g0, m2l0, m2g0, Int32.reduceLT, Int32.reduceLE, Int32.reduceAdd, Int32.reduceSub, Int32.reduceMul, eq_self, Bool.false_eq_true]
      refine ok_some ?_
      unfold bs
      rw [nx0 hs]
      rfl
  obtain ⟨q, h1, h2⟩ := this
  rw [h1, h2]
theorem r_rest {M : Mem} {x y v : Nat} : fX10_isRest (nI x) (nI y) (nI v) M = some (bI (bs x y v), M) := by
  have : Ok (fX10_isRest (nI x) (nI y) (nI v) M) (fun q => q = (bI (bs x y v), M)) := by
    rw [e_X10_isRest]
    have hFU : 2000 < FU := FU_big
    generalize FU = fu0 at hFU ⊢
    refine ok_loop 10 (fun fu j (s : Int32 × Mem) => fX10_isRest_5 fu (nI x) (nI y) (nI v) s.1 (nI j) s.2) (fun j s => s.2 = M ∧ ((s.1 = 1 ∧ ∀ i, i < j → decide (¬ gn (nI i) (nI y) (nI v) ≤ gn (nI x) (nI y) (nI v)) = false) ∨ (s.1 = 0 ∧ bs x y v = false))) ?_ ?_ fu0 0 (1, M) (by omega) (by omega) ⟨rfl, Or.inl ⟨rfl, fun i hi => absurd hi (Nat.not_lt_zero _)⟩⟩
    · intro fu j s hj hs ih
      obtain ⟨b1, b2⟩ := hs
      rw [e_X10_isRest_5]
      rcases b2 with ⟨b2, b3⟩ | ⟨b2, b3⟩
      · simp (disch := omega) only [↓reduceIte, ic_t, ic_f, not_true_eq_false, not_false_eq_true, ↓lt_v, rdR, rdE, rdS, leT, leTc, leTd, leF, leFc, leFd, ltT, ltTc, ltTd, ltF, ltFc, ltFd, eqT, eqTc, eqTd, eqF, eqFc, eqFd, m1T, m1F, m1T', m1F', inb_nI, ix_nI, inb_c, ix_c, nI_1, nI_pred, nI_m1, add_nIc, add_cnI, bd_v, reduceCtorEq, eqFcc, m1e0, m1e1, m1l0, m1g0, m2l0, m2g0, Int32.reduceLT, Int32.reduceLE, Int32.reduceAdd, Int32.reduceSub, Int32.reduceMul, eq_self, Bool.false_eq_true, b2, r_gets]
        by_cases h : gn (nI j) (nI y) (nI v) ≤ gn (nI x) (nI y) (nI v)
        · rw [ic_neg (fun q => by rw [Int32.lt_iff_toInt_lt] at q; rw [Int32.le_iff_toInt_le] at h; omega)]
          refine ih (1, s.2) ⟨b1, Or.inl ⟨rfl, fun i hi => ?_⟩⟩
          by_cases ei : i = j
          · subst ei; exact decide_eq_false (fun q => q h)
          · exact b3 i (by omega)
        · rw [ic_pos (by rw [Int32.lt_iff_toInt_lt]; rw [Int32.le_iff_toInt_le] at h; omega)]
          refine ih (0, s.2) ⟨b1, Or.inr ⟨rfl, ?_⟩⟩
          unfold bs
          rw [nx1 hj (decide_eq_true h) b3]
          rfl
      · simp (disch := omega) only [↓reduceIte, ic_t, ic_f, not_true_eq_false, not_false_eq_true, ↓lt_v, rdR, rdE, rdS, leT, leTc, leTd, leF, leFc, leFd, ltT, ltTc, ltTd, ltF, ltFc, ltFd, eqT, eqTc, eqTd, eqF, eqFc, eqFd, m1T, m1F, m1T', m1F', inb_nI, ix_nI, inb_c, ix_c, nI_1, nI_pred, nI_m1, add_nIc, add_cnI, bd_v, reduceCtorEq, eqFcc, m1e0, m1e1, m1l0, m1g0, m2l0, m2g0, Int32.reduceLT, Int32.reduceLE, Int32.reduceAdd, Int32.reduceSub, Int32.reduceMul, eq_self, Bool.false_eq_true, b2]
        exact ih (0, s.2) ⟨b1, Or.inr ⟨rfl, b3⟩⟩
    · intro fu s hs
      obtain ⟨b1, b2⟩ := hs
      rw [e_X10_isRest_5]
      rcases b2 with ⟨b2, b3⟩ | ⟨b2, b3⟩
      · simp (disch := omega) only [↓reduceIte, ic_t, ic_f, not_true_eq_false, not_false_eq_true, ↓lt_v, rdR, rdE, rdS, leT, leTc, leTd, leF, leFc, leFd, ltT, ltTc, ltTd, ltF, ltFc, ltFd, eqT, eqTc, eqTd, eqF, eqFc, eqFd, m1T, m1F, m1T', m1F', inb_nI, ix_nI, inb_c, ix_c, nI_1, nI_pred, nI_m1, add_nIc, add_cnI, bd_v, reduceCtorEq, eqFcc, m1e0, m1e1, m1l0, m1g0, m2l0, m2g0, Int32.reduceLT, Int32.reduceLE, Int32.reduceAdd, Int32.reduceSub, Int32.reduceMul, eq_self, Bool.false_eq_true, b2, b1]
        rw [ic_pos (Or.inr trivial)]
        refine ok_some ?_
        unfold bs
        rw [nx0 b3]
        rfl
      · simp (disch := omega) only [↓reduceIte, ic_t, ic_f, not_true_eq_false, not_false_eq_true, ↓lt_v, rdR, rdE, rdS, leT, leTc, leTd, leF, leFc, leFd, ltT, ltTc, ltTd, ltF, ltFc, ltFd, eqT, eqTc, eqTd, eqF, eqFc, eqFd, m1T, m1F, m1T', m1F', inb_nI, ix_nI, inb_c, ix_c, nI_1, nI_pred, nI_m1, add_nIc, add_cnI, bd_v, reduceCtorEq, eqFcc, m1e0, m1e1, m1l0, m1g0, m2l0, m2g0, Int32.reduceLT, Int32.reduceLE, Int32.reduceAdd, Int32.reduceSub, Int32.reduceMul, eq_self, Bool.false_eq_true, b2, b1]
        rw [ic_pos (Or.inl trivial)]
        refine ok_some ?_
        rw [b3]
        rfl
  obtain ⟨q, h1, h2⟩ := this
  rw [h1, h2]
def cwH (v p : Nat) : Bool := bs (p / 10) (p % 10) v && bs (p % 10) (p / 10) v
def cwL (v p : Nat) : List Int64 := if cnt (cwH v) p = 0 then [] else [(nI ((nx (cwH v) 100 100 - 1) / 10)).toInt64, (nI ((nx (cwH v) 100 100 - 1) % 10)).toInt64]
theorem cw_div {x y : Nat} (hy : y < 10) : (10 * x + y) / 10 = x ∧ (10 * x + y) % 10 = y := by omega
theorem c_crews {M : Mem} {v : Nat} (hv : v ≤ 20) : Ok (fX9_crews (nI v) M) (QC (nI (cnt (cwH v) 100)) (some (cwL v 100)) M) := by
  rw [e_X9_crews]
  simp (disch := omega) only [↓reduceIte, ic_t, ic_f, not_true_eq_false, not_false_eq_true, ↓lt_v, rdR, rdE, rdS, leT, leTc, leTd, leF, leFc, leFd, ltT, ltTc, ltTd, ltF, ltFc, ltFd, eqT, eqTc, eqTd, eqF, eqFc, eqFd, m1T, m1F, m1T', m1F', inb_nI, ix_nI, inb_c, ix_c, nI_1, nI_pred, nI_m1, add_nIc, add_cnI, bd_v, reduceCtorEq, eqFcc, m1e0, m1e1, m1l0, m1g0, m2l0, m2g0, Int32.reduceLT, Int32.reduceLE, Int32.reduceAdd, Int32.reduceSub, Int32.reduceMul, eq_self, Bool.false_eq_true]
  obtain ⟨z1, z2⟩ := c_zero (kc_rfl (M := M))
  have hFU : 2000 < FU := FU_big
  generalize FU = fu0 at hFU ⊢
  refine ok_loop 10 (fun fu x (s : Int32 × Mem) => fX9_crews_24 fu (nI v) s.1 (nI x) s.2) (fun x s => s.1 = nI (cnt (cwH v) (10 * x)) ∧ KC M s.2 ∧ CRow (some (cwL v (10 * x))) M s.2) ?_ ?_ fu0 0 (0, sI M 4 1 0) (by omega) (by omega) ⟨rfl, z1, z2⟩
  · intro fu x s hx hs ih
    rw [e_X9_crews_24]
    simp (disch := omega) only [↓reduceIte, ic_t, ic_f, not_true_eq_false, not_false_eq_true, ↓lt_v, rdR, rdE, rdS, leT, leTc, leTd, leF, leFc, leFd, ltT, ltTc, ltTd, ltF, ltFc, ltFd, eqT, eqTc, eqTd, eqF, eqFc, eqFd, m1T, m1F, m1T', m1F', inb_nI, ix_nI, inb_c, ix_c, nI_1, nI_pred, nI_m1, add_nIc, add_cnI, bd_v, reduceCtorEq, eqFcc, m1e0, m1e1, m1l0, m1g0, m2l0, m2g0, Int32.reduceLT, Int32.reduceLE, Int32.reduceAdd, Int32.reduceSub, Int32.reduceMul, eq_self, Bool.false_eq_true]
    generalize hg : fX9_crews_24 fu = gg at ih ⊢
    have hFU2 : 2000 < FU := FU_big
    generalize FU = fu1 at hFU2 ⊢
    refine ok_loop 10 (fun fu y (s : Int32 × Mem) => fX9_crews_33 gg fu (nI v) s.1 (nI x) (nI y) s.2) (fun y s => s.1 = nI (cnt (cwH v) (10 * x + y)) ∧ KC M s.2 ∧ CRow (some (cwL v (10 * x + y))) M s.2) ?_ ?_ fu1 0 s (by omega) (by omega) hs
    · intro fu y s hy hs ih'
      obtain ⟨b1, b2, b3⟩ := hs
      obtain ⟨d1, d2⟩ := cw_div (x := x) hy
      have hH : cwH v (10 * x + y) = (bs x y v && bs y x v) := by unfold cwH; rw [d1, d2]
      have hcs : cnt (cwH v) (10 * x + (y + 1)) = cnt (cwH v) (10 * x + y) + (if cwH v (10 * x + y) = true then 1 else 0) := rfl
      have hcl := cnt_le (cwH v) (10 * x + y)
      have no : cwH v (10 * x + y) = false → Ok (fX9_crews_33 gg fu (nI v) s.1 (nI x) (nI (y + 1)) s.2) (QC (nI (cnt (cwH v) 100)) (some (cwL v 100)) M) := by
        intro h
        rw [h] at hcs
        have e : cnt (cwH v) (10 * x + (y + 1)) = cnt (cwH v) (10 * x + y) := by rw [hcs]; simp
        refine ih' s ⟨by rw [e]; exact b1, b2, ?_⟩
        have : cwL v (10 * x + (y + 1)) = cwL v (10 * x + y) := by unfold cwL; rw [e]
        rw [this]; exact b3
      rw [e_X9_crews_33]
      simp (disch := omega) only [↓reduceIte, ic_t, ic_f, not_true_eq_false, not_false_eq_true, ↓lt_v, rdR, rdE, rdS, leT, leTc, leTd, leF, leFc, leFd, ltT, ltTc, ltTd, ltF, ltFc, ltFd, eqT, eqTc, eqTd, eqF, eqFc, eqFd, m1T, m1F, m1T', m1F', inb_nI, ix_nI, inb_c, ix_c, nI_1, nI_pred, nI_m1, add_nIc, add_cnI, bd_v, reduceCtorEq, eqFcc, m1e0, m1e1, m1l0, m1g0, m2l0, m2g0, Int32.reduceLT, Int32.reduceLE, Int32.reduceAdd, Int32.reduceSub, Int32.reduceMul, eq_self, Bool.false_eq_true, c_best, bI_0]
      cases h1 : bs x y v
      · simp (disch := omega) only [↓reduceIte, ic_t, ic_f, not_true_eq_false, not_false_eq_true, ↓lt_v, rdR, rdE, rdS, leT, leTc, leTd, leF, leFc, leFd, ltT, ltTc, ltTd, ltF, ltFc, ltFd, eqT, eqTc, eqTd, eqF, eqFc, eqFd, m1T, m1F, m1T', m1F', inb_nI, ix_nI, inb_c, ix_c, nI_1, nI_pred, nI_m1, add_nIc, add_cnI, bd_v, reduceCtorEq, eqFcc, m1e0, m1e1, m1l0, m1g0, m2l0, m2g0, Int32.reduceLT, Int32.reduceLE, Int32.reduceAdd, Int32.reduceSub, Int32.reduceMul, eq_self, Bool.false_eq_true]
        exact no (by rw [hH, h1]; rfl)
      · simp (disch := omega) only [↓reduceIte, ic_t, ic_f, not_true_eq_false, not_false_eq_true, ↓lt_v, rdR, rdE, rdS, leT, leTc, leTd, leF, leFc, leFd, ltT, ltTc, ltTd, ltF, ltFc, ltFd, eqT, eqTc, eqTd, eqF, eqFc, eqFd, m1T, m1F, m1T', m1F', inb_nI, ix_nI, inb_c, ix_c, nI_1, nI_pred, nI_m1, add_nIc, add_cnI, bd_v, reduceCtorEq, eqFcc, m1e0, m1e1, m1l0, m1g0, m2l0, m2g0, Int32.reduceLT, Int32.reduceLE, Int32.reduceAdd, Int32.reduceSub, Int32.reduceMul, eq_self, Bool.false_eq_true]
        cases h2 : bs y x v
        · simp (disch := omega) only [↓reduceIte, ic_t, ic_f, not_true_eq_false, not_false_eq_true, ↓lt_v, rdR, rdE, rdS, leT, leTc, leTd, leF, leFc, leFd, ltT, ltTc, ltTd, ltF, ltFc, ltFd, eqT, eqTc, eqTd, eqF, eqFc, eqFd, m1T, m1F, m1T', m1F', inb_nI, ix_nI, inb_c, ix_c, nI_1, nI_pred, nI_m1, add_nIc, add_cnI, bd_v, reduceCtorEq, eqFcc, m1e0, m1e1, m1l0, m1g0, m2l0, m2g0, Int32.reduceLT, Int32.reduceLE, Int32.reduceAdd, Int32.reduceSub, Int32.reduceMul, eq_self, Bool.false_eq_true]
          exact no (by rw [hH, h1, h2]; rfl)
        · have hH1 : cwH v (10 * x + y) = true := by rw [hH, h1, h2]; rfl
          rw [hH1, if_pos rfl] at hcs
          by_cases h0 : cnt (cwH v) (10 * x + y) = 0
          · simp (disch := omega) only [↓reduceIte, ic_t, ic_f, not_true_eq_false, not_false_eq_true, ↓lt_v, rdR, rdE, rdS, leT, leTc, leTd, leF, leFc, leFd, ltT, ltTc, ltTd, ltF, ltFc, ltFd, eqT, eqTc, eqTd, eqF, eqFc, eqFd, m1T, m1F, m1T', m1F', inb_nI, ix_nI, inb_c, ix_c, nI_1, nI_pred, nI_m1, add_nIc, add_cnI, bd_v, reduceCtorEq, eqFcc, m1e0, m1e1, m1l0, m1g0, m2l0, m2g0, Int32.reduceLT, Int32.reduceLE, Int32.reduceAdd, Int32.reduceSub, Int32.reduceMul, eq_self, Bool.false_eq_true, b1, h0]
            refine ok_call (c_tellB b2) (fun M2 q => ?_)
            have enx : nx (cwH v) 100 100 = 10 * x + y + 1 := nx1 (by omega) hH1 (cnt_0 _ h0)
            refine ih' (nI 1, M2) ⟨by rw [hcs, h0], q.1, ?_⟩
            have : cwL v (10 * x + (y + 1)) = [(nI x).toInt64, (nI y).toInt64] := by
              unfold cwL
              rw [hcs, if_neg (by omega), enx, Nat.add_sub_cancel, d1, d2]
            rw [this]; exact q.2.1
          · simp (disch := omega) only [↓reduceIte, ic_t, ic_f, not_true_eq_false, not_false_eq_true, ↓lt_v, rdR, rdE, rdS, leT, leTc, leTd, leF, leFc, leFd, ltT, ltTc, ltTd, ltF, ltFc, ltFd, eqT, eqTc, eqTd, eqF, eqFc, eqFd, m1T, m1F, m1T', m1F', inb_nI, ix_nI, inb_c, ix_c, nI_1, nI_pred, nI_m1, add_nIc, add_cnI, bd_v, reduceCtorEq, eqFcc, m1e0, m1e1, m1l0, m1g0, m2l0, m2g0, Int32.reduceLT, Int32.reduceLE, Int32.reduceAdd, Int32.reduceSub, Int32.reduceMul, eq_self, Bool.false_eq_true, b1]
            refine ih' (nI (cnt (cwH v) (10 * x + y) + 1), s.2) ⟨by rw [hcs], b2, ?_⟩
            have : cwL v (10 * x + (y + 1)) = cwL v (10 * x + y) := by unfold cwL; rw [hcs, if_neg (by omega), if_neg h0]
            rw [this]; exact b3
    · intro fu s hs
      rw [e_X9_crews_33]
      simp (disch := omega) only [↓reduceIte, ic_t, ic_f, not_true_eq_false, not_false_eq_true, ↓lt_v, rdR, rdE, rdS, leT, leTc, leTd, leF, leFc, leFd, ltT, ltTc, ltTd, ltF, ltFc, ltFd, eqT, eqTc, eqTd, eqF, eqFc, eqFd, m1T, m1F, m1T', m1F', inb_nI, ix_nI, inb_c, ix_c, nI_1, nI_pred, nI_m1, add_nIc, add_cnI, bd_v, reduceCtorEq, eqFcc, m1e0, m1e1, m1l0, m1g0, m2l0, m2g0, Int32.reduceLT, Int32.reduceLE, Int32.reduceAdd, Int32.reduceSub, Int32.reduceMul, eq_self, Bool.false_eq_true]
      exact ih s hs
  · intro fu s hs
    obtain ⟨b1, b2, b3⟩ := hs
    rw [e_X9_crews_24]
    simp (disch := omega) only [↓reduceIte, ic_t, ic_f, not_true_eq_false, not_false_eq_true, ↓lt_v, rdR, rdE, rdS, leT, leTc, leTd, leF, leFc, leFd, ltT, ltTc, ltTd, ltF, ltFc, ltFd, eqT, eqTc, eqTd, eqF, eqFc, eqFd, m1T, m1F, m1T', m1F', inb_nI, ix_nI, inb_c, ix_c, nI_1, nI_pred, nI_m1, add_nIc, add_cnI, bd_v, reduceCtorEq, eqFcc, m1e0, m1e1, m1l0, m1g0, m2l0, m2g0, Int32.reduceLT, Int32.reduceLE, Int32.reduceAdd, Int32.reduceSub, Int32.reduceMul, eq_self, Bool.false_eq_true]
    exact ok_some ⟨b1, b2, b3⟩
theorem r_crews {M : Mem} {v : Nat} (hv : v ≤ 20) : Ok (fX10_crews (nI v) M) (QR (nI (cnt (cwH v) 100)) (some (cwL v 100)) M) := by
  have hi : ∀ M : Mem, fX10_in (nI v).toInt64 0 20 M = some (1, M) := fun M => by rw [r_inI (lo := 0) (hi := 20) (by decide) (by decide), nI_toInt (by omega), if_pos (by omega)]
  rw [e_X10_crews]
  simp (disch := omega) only [↓reduceIte, ic_t, ic_f, not_true_eq_false, not_false_eq_true, ↓lt_v, rdR, rdE, rdS, leT, leTc, leTd, leF, leFc, leFd, ltT, ltTc, ltTd, ltF, ltFc, ltFd, eqT, eqTc, eqTd, eqF, eqFc, eqFd, m1T, m1F, m1T', m1F', inb_nI, ix_nI, inb_c, ix_c, nI_1, nI_pred, nI_m1, add_nIc, add_cnI, bd_v, reduceCtorEq, eqFcc, m1e0, m1e1, m1l0, m1g0, m2l0, m2g0, Int32.reduceLT, Int32.reduceLE, Int32.reduceAdd, Int32.reduceSub, Int32.reduceMul, eq_self, Bool.false_eq_true, hi]
  obtain ⟨z1, z2⟩ := r_zero (kr_1 (frR_sI (P := SR) (S := SS1) (M := M) (a := 169) (i := 0) (v := 0) (by omega) (by unfold SS1 SS; omega)))
  have hFU : 2000 < FU := FU_big
  generalize FU = fu0 at hFU ⊢
  refine ok_loop 10 (fun fu x (s : Int32 × Mem) => fX10_crews_28 fu (nI v) s.1 (nI x) s.2) (fun x s => s.1 = nI (cnt (cwH v) (10 * x)) ∧ KR M s.2 ∧ RRow (some (cwL v (10 * x))) M s.2) ?_ ?_ fu0 0 (0, sI (sI M 169 0 0) 169 1 0) (by omega) (by omega) ⟨rfl, z1, z2⟩
  · intro fu x s hx hs ih
    rw [e_X10_crews_28]
    simp (disch := omega) only [↓reduceIte, ic_t, ic_f, not_true_eq_false, not_false_eq_true, ↓lt_v, rdR, rdE, rdS, leT, leTc, leTd, leF, leFc, leFd, ltT, ltTc, ltTd, ltF, ltFc, ltFd, eqT, eqTc, eqTd, eqF, eqFc, eqFd, m1T, m1F, m1T', m1F', inb_nI, ix_nI, inb_c, ix_c, nI_1, nI_pred, nI_m1, add_nIc, add_cnI, bd_v, reduceCtorEq, eqFcc, m1e0, m1e1, m1l0, m1g0, m2l0, m2g0, Int32.reduceLT, Int32.reduceLE, Int32.reduceAdd, Int32.reduceSub, Int32.reduceMul, eq_self, Bool.false_eq_true]
    generalize hg : fX10_crews_28 fu = gg at ih ⊢
    have hFU2 : 2000 < FU := FU_big
    generalize FU = fu1 at hFU2 ⊢
    refine ok_loop 10 (fun fu y (s : Int32 × Mem) => fX10_crews_37 gg fu (nI v) s.1 (nI x) (nI y) s.2) (fun y s => s.1 = nI (cnt (cwH v) (10 * x + y)) ∧ KR M s.2 ∧ RRow (some (cwL v (10 * x + y))) M s.2) ?_ ?_ fu1 0 s (by omega) (by omega) hs
    · intro fu y s hy hs ih'
      obtain ⟨b1, b2, b3⟩ := hs
      obtain ⟨d1, d2⟩ := cw_div (x := x) hy
      have hH : cwH v (10 * x + y) = (bs x y v && bs y x v) := by unfold cwH; rw [d1, d2]
      have hcs : cnt (cwH v) (10 * x + (y + 1)) = cnt (cwH v) (10 * x + y) + (if cwH v (10 * x + y) = true then 1 else 0) := rfl
      have hcl := cnt_le (cwH v) (10 * x + y)
      have no : cwH v (10 * x + y) = false → Ok (fX10_crews_37 gg fu (nI v) s.1 (nI x) (nI (y + 1)) s.2) (QR (nI (cnt (cwH v) 100)) (some (cwL v 100)) M) := by
        intro h
        rw [h] at hcs
        have e : cnt (cwH v) (10 * x + (y + 1)) = cnt (cwH v) (10 * x + y) := by rw [hcs]; simp
        refine ih' s ⟨by rw [e]; exact b1, b2, ?_⟩
        have : cwL v (10 * x + (y + 1)) = cwL v (10 * x + y) := by unfold cwL; rw [e]
        rw [this]; exact b3
      rw [e_X10_crews_37]
      simp (disch := omega) only [↓reduceIte, ic_t, ic_f, not_true_eq_false, not_false_eq_true, ↓lt_v, rdR, rdE, rdS, leT, leTc, leTd, leF, leFc, leFd, ltT, ltTc, ltTd, ltF, ltFc, ltFd, eqT, eqTc, eqTd, eqF, eqFc, eqFd, m1T, m1F, m1T', m1F', inb_nI, ix_nI, inb_c, ix_c, nI_1, nI_pred, nI_m1, add_nIc, add_cnI, bd_v, reduceCtorEq, eqFcc, m1e0, m1e1, m1l0, m1g0, m2l0, m2g0, Int32.reduceLT, Int32.reduceLE, Int32.reduceAdd, Int32.reduceSub, Int32.reduceMul, eq_self, Bool.false_eq_true, r_rest, bI_0]
      cases h1 : bs x y v
      · simp (disch := omega) only [↓reduceIte, ic_t, ic_f, not_true_eq_false, not_false_eq_true, ↓lt_v, rdR, rdE, rdS, leT, leTc, leTd, leF, leFc, leFd, ltT, ltTc, ltTd, ltF, ltFc, ltFd, eqT, eqTc, eqTd, eqF, eqFc, eqFd, m1T, m1F, m1T', m1F', inb_nI, ix_nI, inb_c, ix_c, nI_1, nI_pred, nI_m1, add_nIc, add_cnI, bd_v, reduceCtorEq, eqFcc, m1e0, m1e1, m1l0, m1g0, m2l0, m2g0, Int32.reduceLT, Int32.reduceLE, Int32.reduceAdd, Int32.reduceSub, Int32.reduceMul, eq_self, Bool.false_eq_true]
        exact no (by rw [hH, h1]; rfl)
      · simp (disch := omega) only [↓reduceIte, ic_t, ic_f, not_true_eq_false, not_false_eq_true, ↓lt_v, rdR, rdE, rdS, leT, leTc, leTd, leF, leFc, leFd, ltT, ltTc, ltTd, ltF, ltFc, ltFd, eqT, eqTc, eqTd, eqF, eqFc, eqFd, m1T, m1F, m1T', m1F', inb_nI, ix_nI, inb_c, ix_c, nI_1, nI_pred, nI_m1, add_nIc, add_cnI, bd_v, reduceCtorEq, eqFcc, m1e0, m1e1, m1l0, m1g0, m2l0, m2g0, Int32.reduceLT, Int32.reduceLE, Int32.reduceAdd, Int32.reduceSub, Int32.reduceMul, eq_self, Bool.false_eq_true]
        cases h2 : bs y x v
        · simp (disch := omega) only [↓reduceIte, ic_t, ic_f, not_true_eq_false, not_false_eq_true, ↓lt_v, rdR, rdE, rdS, leT, leTc, leTd, leF, leFc, leFd, ltT, ltTc, ltTd, ltF, ltFc, ltFd, eqT, eqTc, eqTd, eqF, eqFc, eqFd, m1T, m1F, m1T', m1F', inb_nI, ix_nI, inb_c, ix_c, nI_1, nI_pred, nI_m1, add_nIc, add_cnI, bd_v, reduceCtorEq, eqFcc, m1e0, m1e1, m1l0, m1g0, m2l0, m2g0, Int32.reduceLT, Int32.reduceLE, Int32.reduceAdd, Int32.reduceSub, Int32.reduceMul, eq_self, Bool.false_eq_true]
          exact no (by rw [hH, h1, h2]; rfl)
        · have hH1 : cwH v (10 * x + y) = true := by rw [hH, h1, h2]; rfl
          rw [hH1, if_pos rfl] at hcs
          by_cases h0 : cnt (cwH v) (10 * x + y) = 0
          · simp (disch := omega) only [↓reduceIte, ic_t, ic_f, not_true_eq_false, not_false_eq_true, ↓lt_v, rdR, rdE, rdS, leT, leTc, leTd, leF, leFc, leFd, ltT, ltTc, ltTd, ltF, ltFc, ltFd, eqT, eqTc, eqTd, eqF, eqFc, eqFd, m1T, m1F, m1T', m1F', inb_nI, ix_nI, inb_c, ix_c, nI_1, nI_pred, nI_m1, add_nIc, add_cnI, bd_v, reduceCtorEq, eqFcc, m1e0, m1e1, m1l0, m1g0, m2l0, m2g0, Int32.reduceLT, Int32.reduceLE, Int32.reduceAdd, Int32.reduceSub, Int32.reduceMul, eq_self, Bool.false_eq_true, b1, h0]
            have b3' : RRow (some []) M s.2 := by
              have : cwL v (10 * x + y) = [] := by unfold cwL; rw [if_pos h0]
              rw [this] at b3; exact b3
            refine ok_call (r_enters (by simp) b2 b3') (fun M2 q => ?_)
            refine ok_call (r_enters (by simp) q.1 q.2.1) (fun M3 q' => ?_)
            have enx : nx (cwH v) 100 100 = 10 * x + y + 1 := nx1 (by omega) hH1 (cnt_0 _ h0)
            refine ih' (nI 1, M3) ⟨by rw [hcs, h0], q'.1, ?_⟩
            have : cwL v (10 * x + (y + 1)) = [(nI x).toInt64, (nI y).toInt64] := by
              unfold cwL
              rw [hcs, if_neg (by omega), enx, Nat.add_sub_cancel, d1, d2]
            rw [this]; exact q'.2.1
          · simp (disch := omega) only [↓reduceIte, ic_t, ic_f, not_true_eq_false, not_false_eq_true, ↓lt_v, rdR, rdE, rdS, leT, leTc, leTd, leF, leFc, leFd, ltT, ltTc, ltTd, ltF, ltFc, ltFd, eqT, eqTc, eqTd, eqF, eqFc, eqFd, m1T, m1F, m1T', m1F', inb_nI, ix_nI, inb_c, ix_c, nI_1, nI_pred, nI_m1, add_nIc, add_cnI, bd_v, reduceCtorEq, eqFcc, m1e0, m1e1, m1l0, m1g0, m2l0, m2g0, Int32.reduceLT, Int32.reduceLE, Int32.reduceAdd, Int32.reduceSub, Int32.reduceMul, eq_self, Bool.false_eq_true, b1]
            refine ih' (nI (cnt (cwH v) (10 * x + y) + 1), s.2) ⟨by rw [hcs], b2, ?_⟩
            have : cwL v (10 * x + (y + 1)) = cwL v (10 * x + y) := by unfold cwL; rw [hcs, if_neg (by omega), if_neg h0]
            rw [this]; exact b3
    · intro fu s hs
      rw [e_X10_crews_37]
      simp (disch := omega) only [↓reduceIte, ic_t, ic_f, not_true_eq_false, not_false_eq_true, ↓lt_v, rdR, rdE, rdS, leT, leTc, leTd, leF, leFc, leFd, ltT, ltTc, ltTd, ltF, ltFc, ltFd, eqT, eqTc, eqTd, eqF, eqFc, eqFd, m1T, m1F, m1T', m1F', inb_nI, ix_nI, inb_c, ix_c, nI_1, nI_pred, nI_m1, add_nIc, add_cnI, bd_v, reduceCtorEq, eqFcc, m1e0, m1e1, m1l0, m1g0, m2l0, m2g0, Int32.reduceLT, Int32.reduceLE, Int32.reduceAdd, Int32.reduceSub, Int32.reduceMul, eq_self, Bool.false_eq_true]
      exact ih s hs
  · intro fu s hs
    obtain ⟨b1, b2, b3⟩ := hs
    rw [e_X10_crews_28]
    simp (disch := omega) only [↓reduceIte, ic_t, ic_f, not_true_eq_false, not_false_eq_true, ↓lt_v, rdR, rdE, rdS, leT, leTc, leTd, leF, leFc, leFd, ltT, ltTc, ltTd, ltF, ltFc, ltFd, eqT, eqTc, eqTd, eqF, eqFc, eqFd, m1T, m1F, m1T', m1F', inb_nI, ix_nI, inb_c, ix_c, nI_1, nI_pred, nI_m1, add_nIc, add_cnI, bd_v, reduceCtorEq, eqFcc, m1e0, m1e1, m1l0, m1g0, m2l0, m2g0, Int32.reduceLT, Int32.reduceLE, Int32.reduceAdd, Int32.reduceSub, Int32.reduceMul, eq_self, Bool.false_eq_true]
    exact ok_some ⟨b1, b2, b3⟩
