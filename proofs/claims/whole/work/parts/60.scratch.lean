/-! PURE: a boat scratches -/
def scV (n a : Nat) (v : VV) : VV :=
  (fun i => if 12 ≤ i ∧ i < 12 + n then (if i = 12 + v.2 a then nI (n - 1) else v.1 i - (if nI a < v.1 i then 1 else 0)) else v.1 i,
   fun k => if k < a then v.2 k else if k + 1 < n then v.2 (k + 1) else v.2 a)
def scA (n a : Nat) : Int32 := if a + 1 = n then -2 else nI a
theorem sc_pl {n a j : Nat} {v : VV} (hw : WfV n v) (ha : a < n) (hj : j < n) : (scV n a v).1 (12 + v.2 j) = nI (if j = a then n - 1 else if a < j then j - 1 else j) := by
  have hn : n ≤ 6 := hw.1
  have h1 := (hw.2.1 j hj).1
  have h2 := (hw.2.1 j hj).2
  show (if 12 ≤ 12 + v.2 j ∧ 12 + v.2 j < 12 + n then (if 12 + v.2 j = 12 + v.2 a then nI (n - 1) else v.1 (12 + v.2 j) - (if nI a < v.1 (12 + v.2 j) then 1 else 0)) else _) = _
  rw [if_pos (by omega)]
  by_cases e : j = a
  · subst e
    rw [if_pos rfl, if_pos rfl]
  · have : v.2 j ≠ v.2 a := fun q => e (wf_inj hw hj ha q)
    rw [if_neg (by omega), if_neg e, h2]
    by_cases e2 : a < j
    · rw [if_pos (nI_lt e2 (by omega)), if_pos e2]
      obtain ⟨m, rfl⟩ : ∃ m, j = m + 1 := ⟨j - 1, by omega⟩
      rw [nI_pred, Nat.add_sub_cancel]
    · rw [if_neg (nI_nlt (by omega) (by omega)), if_neg e2, Int32.sub_zero]
theorem sc_o {n a k : Nat} {v : VV} (ha : a < n) (hk : k < n) : (scV n a v).2 k = v.2 (if k < a then k else if k + 1 < n then k + 1 else a) := by
  show (if k < a then v.2 k else if k + 1 < n then v.2 (k + 1) else v.2 a) = _
  split
  · rfl
  · split <;> rfl
theorem sc_lo {n a i : Nat} {v : VV} (h : i < 12 ∨ 12 + n ≤ i) : (scV n a v).1 i = v.1 i := if_neg (by omega)
theorem wf_sc {n a : Nat} {v : VV} (hw : WfV n v) (ha : a < n) : WfV n (scV n a v) := by
  have hn : n ≤ 6 := hw.1
  refine ⟨hn, fun k hk => ?_, fun c hc => ?_, ?_, ?_⟩
  · rw [sc_o ha hk]
    have hj : (if k < a then k else if k + 1 < n then k + 1 else a) < n := by split; omega; split <;> omega
    refine ⟨(hw.2.1 _ hj).1, ?_⟩
    rw [sc_pl hw ha hj]
    congr 1
    split
    · rw [if_neg (by omega), if_neg (by omega)]
    · split
      · rw [if_neg (by omega), if_pos (by omega)]; omega
      · rw [if_pos rfl]; omega
  · obtain ⟨j, hj, rfl⟩ := hw.2.2.1 c hc
    by_cases e : j = a
    · refine ⟨n - 1, by omega, ?_⟩
      rw [sc_o ha (by omega), if_neg (by omega), if_neg (by omega), e]
    · by_cases e2 : a < j
      · refine ⟨j - 1, by omega, ?_⟩
        rw [sc_o ha (by omega), if_neg (by omega), if_pos (by omega), show j - 1 + 1 = j by omega]
      · refine ⟨j, hj, ?_⟩
        rw [sc_o ha hj, if_pos (by omega)]
  · rw [sc_lo (by omega)]; exact hw.2.2.2.1
  · rw [sc_lo (by omega)]; exact hw.2.2.2.2
theorem c_foot {M : Mem} {r n a : Nat} {v : VV} (hw : WfV n v) (hv : RvC r n v M) (ha : a < n) : Ok (fX4_moveToFoot r (nI (v.2 a)) M) (fun q => q.1 = scA n a ∧ RvC r n (scV n a v) q.2 ∧ Fr (fun x => x = r + 3 ∨ x = r + 4) M q.2) := by
  have hn : n ≤ 6 := hw.1
  obtain ⟨v1, v2, v3, v4, v5, v6, v7, v8, v9⟩ := hv
  have ho : ∀ k, k < n → v.2 k < n := fun k hk => (hw.2.1 k hk).1
  have hoa := ho a ha
  have hh := has_in v1 hn hoa
  have hpa : M.1 (r + 3) (v.2 a) = nI a := (v4 _ hoa).trans (hw.2.1 a ha).2
  have pl : ∀ j, j < n → M.1 (r + 3) (v.2 j) = nI j := fun j hj => (v4 _ (ho j hj)).trans (hw.2.1 j hj).2
  obtain ⟨m, rfl⟩ : ∃ m, n = m + 1 := ⟨n - 1, by omega⟩
  rw [e_X4_moveToFoot]
  unfold scA
  by_cases e : a = m
  · simp (disch := omega) only [↓reduceIte, ic_t, ic_f, not_true_eq_false, not_false_eq_true, ↓lt_v, rdR, rdE, rdS, leT, leTc, leTd, leF, leFc, leFd, ltT, ltTc, ltTd, ltF, ltFc, ltFd, eqT, eqTc, eqTd, eqF, eqFc, eqFd, m1T, m1F, m1T', m1F', inb_nI, ix_nI, inb_c, ix_c, nI_1, nI_pred, nI_m1, add_nIc, add_cnI, bd_v, reduceCtorEq, eqFcc, m1e0, m1e1, m1l0, m1g0, m2l0, m2g0, Int32.reduceLT, Int32.reduceLE, Int32.reduceAdd, Int32.reduceSub, Int32.reduceMul, eq_self, Bool.false_eq_true, hh, hpa, v1]
    rw [if_pos (by omega)]
    refine ok_some ⟨rfl, ⟨v1, fun b hb => (v2 b hb).trans (sc_lo (by omega)).symm, fun b hb => (v3 b hb).trans (sc_lo (by omega)).symm, fun b hb => ?_, fun k hk => ?_, v6.trans (sc_lo (by omega)).symm, v7.trans (sc_lo (by omega)).symm, v8.trans (sc_lo (by omega)).symm, v9.trans (sc_lo (by omega)).symm⟩, fr_rfl⟩
    · obtain ⟨j, hj, rfl⟩ := hw.2.2.1 b hb
      rw [pl j hj, sc_pl hw ha hj]
      congr 1
      by_cases ej : j = a
      · rw [if_pos ej]; omega
      · rw [if_neg ej, if_neg (by omega)]
    · rw [v5 k hk, sc_o ha hk]
      congr 2
      by_cases ek : k < a
      · rw [if_pos ek]
      · rw [if_neg ek, if_neg (by omega)]
        exact congrArg v.2 (show k = a by omega)
  · simp (disch := omega) only [↓reduceIte, ic_t, ic_f, not_true_eq_false, not_false_eq_true, ↓lt_v, rdR, rdE, rdS, leT, leTc, leTd, leF, leFc, leFd, ltT, ltTc, ltTd, ltF, ltFc, ltFd, eqT, eqTc, eqTd, eqF, eqFc, eqFd, m1T, m1F, m1T', m1F', inb_nI, ix_nI, inb_c, ix_c, nI_1, nI_pred, nI_m1, add_nIc, add_cnI, bd_v, reduceCtorEq, eqFcc, m1e0, m1e1, m1l0, m1g0, m2l0, m2g0, Int32.reduceLT, Int32.reduceLE, Int32.reduceAdd, Int32.reduceSub, Int32.reduceMul, eq_self, Bool.false_eq_true, hh, hpa, v1]
    rw [if_neg (by omega)]
    have hFU : 2000 < FU := FU_big
    generalize FU = fu0 at hFU ⊢
    refine ok_loop m (fun fu k s => fX4_moveToFoot_32 fu r (nI (v.2 a)) (nI a) (nI k) s) (fun k s => a ≤ k ∧ (∀ j, j < m + 1 → s.1 (r + 4) j = nI (v.2 (if a ≤ j ∧ j < k then j + 1 else j))) ∧ (∀ j, j < m + 1 → j ≠ a → s.1 (r + 3) (v.2 j) = nI (if a < j ∧ j ≤ k then j - 1 else j)) ∧ Fr (fun x => x = r + 3 ∨ x = r + 4) M s) ?_ ?_ fu0 a M (by omega) (by omega) ⟨Nat.le_refl _, fun j hj => ?_, fun j hj hja => ?_, fr_rfl⟩
    · intro fu k s hk hs ih
      obtain ⟨b0, b1, b2, b3⟩ := hs
      have u1 : s.1 r 0 = nI (m + 1) := by rw [b3.1 r (by omega)]; exact v1
      have o1 : s.1 (r + 4) (k + 1) = nI (v.2 (k + 1)) := by rw [b1 (k + 1) (by omega), if_neg (by omega)]
      have hok := ho (k + 1) (by omega)
      rw [e_X4_moveToFoot_32]
      simp (disch := omega) only [↓reduceIte, ic_t, ic_f, not_true_eq_false, not_false_eq_true, ↓lt_v, rdR, rdE, rdS, leT, leTc, leTd, leF, leFc, leFd, ltT, ltTc, ltTd, ltF, ltFc, ltFd, eqT, eqTc, eqTd, eqF, eqFc, eqFd, m1T, m1F, m1T', m1F', inb_nI, ix_nI, inb_c, ix_c, nI_1, nI_pred, nI_m1, add_nIc, add_cnI, bd_v, reduceCtorEq, eqFcc, m1e0, m1e1, m1l0, m1g0, m2l0, m2g0, Int32.reduceLT, Int32.reduceLE, Int32.reduceAdd, Int32.reduceSub, Int32.reduceMul, eq_self, Bool.false_eq_true, u1, o1]
      rw [rd_put u1 hn hok (show k < m + 1 by omega)]
      simp (disch := omega) only [↓reduceIte, ic_t, ic_f, not_true_eq_false, not_false_eq_true, ↓lt_v, rdR, rdE, rdS, leT, leTc, leTd, leF, leFc, leFd, ltT, ltTc, ltTd, ltF, ltFc, ltFd, eqT, eqTc, eqTd, eqF, eqFc, eqFd, m1T, m1F, m1T', m1F', inb_nI, ix_nI, inb_c, ix_c, nI_1, nI_pred, nI_m1, add_nIc, add_cnI, bd_v, reduceCtorEq, eqFcc, m1e0, m1e1, m1l0, m1g0, m2l0, m2g0, Int32.reduceLT, Int32.reduceLE, Int32.reduceAdd, Int32.reduceSub, Int32.reduceMul, eq_self, Bool.false_eq_true]
      refine ih _ ⟨by omega, fun j hj => ?_, fun j hj hja => ?_, fr_trans b3 (by repeat (first | exact fr_rfl | refine fr_trans ?_ (fr_sI (by omega))))⟩
      · by_cases ej : j = k
        · subst ej
          simp (disch := omega) only [↓reduceIte, ic_t, ic_f, not_true_eq_false, not_false_eq_true, ↓lt_v, rdR, rdE, rdS, leT, leTc, leTd, leF, leFc, leFd, ltT, ltTc, ltTd, ltF, ltFc, ltFd, eqT, eqTc, eqTd, eqF, eqFc, eqFd, m1T, m1F, m1T', m1F', inb_nI, ix_nI, inb_c, ix_c, nI_1, nI_pred, nI_m1, add_nIc, add_cnI, bd_v, reduceCtorEq, eqFcc, m1e0, m1e1, m1l0, m1g0, m2l0, m2g0, Int32.reduceLT, Int32.reduceLE, Int32.reduceAdd, Int32.reduceSub, Int32.reduceMul, eq_self, Bool.false_eq_true]
          rw [if_pos (show a ≤ j ∧ j < j + 1 by omega)]
        · simp (disch := omega) only [↓reduceIte, ic_t, ic_f, not_true_eq_false, not_false_eq_true, ↓lt_v, rdR, rdE, rdS, leT, leTc, leTd, leF, leFc, leFd, ltT, ltTc, ltTd, ltF, ltFc, ltFd, eqT, eqTc, eqTd, eqF, eqFc, eqFd, m1T, m1F, m1T', m1F', inb_nI, ix_nI, inb_c, ix_c, nI_1, nI_pred, nI_m1, add_nIc, add_cnI, bd_v, reduceCtorEq, eqFcc, m1e0, m1e1, m1l0, m1g0, m2l0, m2g0, Int32.reduceLT, Int32.reduceLE, Int32.reduceAdd, Int32.reduceSub, Int32.reduceMul, eq_self, Bool.false_eq_true, b1]
          congr 2
          by_cases c : a ≤ j ∧ j < k
          · rw [if_pos c, if_pos (by omega)]
          · rw [if_neg c, if_neg (by omega)]
      · by_cases ej : j = k + 1
        · subst ej
          simp (disch := omega) only [↓reduceIte, ic_t, ic_f, not_true_eq_false, not_false_eq_true, ↓lt_v, rdR, rdE, rdS, leT, leTc, leTd, leF, leFc, leFd, ltT, ltTc, ltTd, ltF, ltFc, ltFd, eqT, eqTc, eqTd, eqF, eqFc, eqFd, m1T, m1F, m1T', m1F', inb_nI, ix_nI, inb_c, ix_c, nI_1, nI_pred, nI_m1, add_nIc, add_cnI, bd_v, reduceCtorEq, eqFcc, m1e0, m1e1, m1l0, m1g0, m2l0, m2g0, Int32.reduceLT, Int32.reduceLE, Int32.reduceAdd, Int32.reduceSub, Int32.reduceMul, eq_self, Bool.false_eq_true]
          rw [if_pos (show a < k + 1 ∧ k + 1 ≤ k + 1 by omega), Nat.add_sub_cancel]
        · have : v.2 j ≠ v.2 (k + 1) := fun q => ej (wf_inj hw hj (by omega) q)
          simp (disch := omega) only [↓reduceIte, ic_t, ic_f, not_true_eq_false, not_false_eq_true, ↓lt_v, rdR, rdE, rdS, leT, leTc, leTd, leF, leFc, leFd, ltT, ltTc, ltTd, ltF, ltFc, ltFd, eqT, eqTc, eqTd, eqF, eqFc, eqFd, m1T, m1F, m1T', m1F', inb_nI, ix_nI, inb_c, ix_c, nI_1, nI_pred, nI_m1, add_nIc, add_cnI, bd_v, reduceCtorEq, eqFcc, m1e0, m1e1, m1l0, m1g0, m2l0, m2g0, Int32.reduceLT, Int32.reduceLE, Int32.reduceAdd, Int32.reduceSub, Int32.reduceMul, eq_self, Bool.false_eq_true, b2]
          congr 1
          by_cases c : a < j ∧ j ≤ k
          · rw [if_pos c, if_pos (by omega)]
          · rw [if_neg c, if_neg (by omega)]
    · intro fu s hs
      obtain ⟨b0, b1, b2, b3⟩ := hs
      have u1 : s.1 r 0 = nI (m + 1) := by rw [b3.1 r (by omega)]; exact v1
      rw [e_X4_moveToFoot_32]
      simp (disch := omega) only [↓reduceIte, ic_t, ic_f, not_true_eq_false, not_false_eq_true, ↓lt_v, rdR, rdE, rdS, leT, leTc, leTd, leF, leFc, leFd, ltT, ltTc, ltTd, ltF, ltFc, ltFd, eqT, eqTc, eqTd, eqF, eqFc, eqFd, m1T, m1F, m1T', m1F', inb_nI, ix_nI, inb_c, ix_c, nI_1, nI_pred, nI_m1, add_nIc, add_cnI, bd_v, reduceCtorEq, eqFcc, m1e0, m1e1, m1l0, m1g0, m2l0, m2g0, Int32.reduceLT, Int32.reduceLE, Int32.reduceAdd, Int32.reduceSub, Int32.reduceMul, eq_self, Bool.false_eq_true, u1]
      rw [rd_put u1 hn hoa (show m < m + 1 by omega)]
      simp (disch := omega) only [↓reduceIte, ic_t, ic_f, not_true_eq_false, not_false_eq_true, ↓lt_v, rdR, rdE, rdS, leT, leTc, leTd, leF, leFc, leFd, ltT, ltTc, ltTd, ltF, ltFc, ltFd, eqT, eqTc, eqTd, eqF, eqFc, eqFd, m1T, m1F, m1T', m1F', inb_nI, ix_nI, inb_c, ix_c, nI_1, nI_pred, nI_m1, add_nIc, add_cnI, bd_v, reduceCtorEq, eqFcc, m1e0, m1e1, m1l0, m1g0, m2l0, m2g0, Int32.reduceLT, Int32.reduceLE, Int32.reduceAdd, Int32.reduceSub, Int32.reduceMul, eq_self, Bool.false_eq_true]
      refine ok_some ⟨rfl, ⟨?_, fun b hb => ?_, fun b hb => ?_, fun b hb => ?_, fun k hk => ?_, ?_, ?_, ?_, ?_⟩, fr_trans b3 (by repeat (first | exact fr_rfl | refine fr_trans ?_ (fr_sI (by omega))))⟩
      · simp (disch := omega) only [↓reduceIte, ic_t, ic_f, not_true_eq_false, not_false_eq_true, ↓lt_v, rdR, rdE, rdS, leT, leTc, leTd, leF, leFc, leFd, ltT, ltTc, ltTd, ltF, ltFc, ltFd, eqT, eqTc, eqTd, eqF, eqFc, eqFd, m1T, m1F, m1T', m1F', inb_nI, ix_nI, inb_c, ix_c, nI_1, nI_pred, nI_m1, add_nIc, add_cnI, bd_v, reduceCtorEq, eqFcc, m1e0, m1e1, m1l0, m1g0, m2l0, m2g0, Int32.reduceLT, Int32.reduceLE, Int32.reduceAdd, Int32.reduceSub, Int32.reduceMul, eq_self, Bool.false_eq_true, u1]
      · simp (disch := omega) only [↓reduceIte, ic_t, ic_f, not_true_eq_false, not_false_eq_true, ↓lt_v, rdR, rdE, rdS, leT, leTc, leTd, leF, leFc, leFd, ltT, ltTc, ltTd, ltF, ltFc, ltFd, eqT, eqTc, eqTd, eqF, eqFc, eqFd, m1T, m1F, m1T', m1F', inb_nI, ix_nI, inb_c, ix_c, nI_1, nI_pred, nI_m1, add_nIc, add_cnI, bd_v, reduceCtorEq, eqFcc, m1e0, m1e1, m1l0, m1g0, m2l0, m2g0, Int32.reduceLT, Int32.reduceLE, Int32.reduceAdd, Int32.reduceSub, Int32.reduceMul, eq_self, Bool.false_eq_true]
        rw [b3.1 (r + 1) (by omega), sc_lo (by omega)]; exact v2 b hb
      · simp (disch := omega) only [↓reduceIte, ic_t, ic_f, not_true_eq_false, not_false_eq_true, ↓lt_v, rdR, rdE, rdS, leT, leTc, leTd, leF, leFc, leFd, ltT, ltTc, ltTd, ltF, ltFc, ltFd, eqT, eqTc, eqTd, eqF, eqFc, eqFd, m1T, m1F, m1T', m1F', inb_nI, ix_nI, inb_c, ix_c, nI_1, nI_pred, nI_m1, add_nIc, add_cnI, bd_v, reduceCtorEq, eqFcc, m1e0, m1e1, m1l0, m1g0, m2l0, m2g0, Int32.reduceLT, Int32.reduceLE, Int32.reduceAdd, Int32.reduceSub, Int32.reduceMul, eq_self, Bool.false_eq_true]
        rw [b3.1 (r + 2) (by omega), sc_lo (by omega)]; exact v3 b hb
      · obtain ⟨j, hj, rfl⟩ := hw.2.2.1 b hb
        rw [sc_pl hw ha hj]
        by_cases ej : j = a
        · subst ej
          simp (disch := omega) only [↓reduceIte, ic_t, ic_f, not_true_eq_false, not_false_eq_true, ↓lt_v, rdR, rdE, rdS, leT, leTc, leTd, leF, leFc, leFd, ltT, ltTc, ltTd, ltF, ltFc, ltFd, eqT, eqTc, eqTd, eqF, eqFc, eqFd, m1T, m1F, m1T', m1F', inb_nI, ix_nI, inb_c, ix_c, nI_1, nI_pred, nI_m1, add_nIc, add_cnI, bd_v, reduceCtorEq, eqFcc, m1e0, m1e1, m1l0, m1g0, m2l0, m2g0, Int32.reduceLT, Int32.reduceLE, Int32.reduceAdd, Int32.reduceSub, Int32.reduceMul, eq_self, Bool.false_eq_true]
          try rw [if_pos rfl]
          try rfl
        · have : v.2 j ≠ v.2 a := fun q => ej (wf_inj hw hj ha q)
          simp (disch := omega) only [↓reduceIte, ic_t, ic_f, not_true_eq_false, not_false_eq_true, ↓lt_v, rdR, rdE, rdS, leT, leTc, leTd, leF, leFc, leFd, ltT, ltTc, ltTd, ltF, ltFc, ltFd, eqT, eqTc, eqTd, eqF, eqFc, eqFd, m1T, m1F, m1T', m1F', inb_nI, ix_nI, inb_c, ix_c, nI_1, nI_pred, nI_m1, add_nIc, add_cnI, bd_v, reduceCtorEq, eqFcc, m1e0, m1e1, m1l0, m1g0, m2l0, m2g0, Int32.reduceLT, Int32.reduceLE, Int32.reduceAdd, Int32.reduceSub, Int32.reduceMul, eq_self, Bool.false_eq_true, b2]
          rw [if_neg ej]
          congr 1
          by_cases c : a < j
          · rw [if_pos (by omega), if_pos c]
          · rw [if_neg (by omega), if_neg c]
      · rw [sc_o ha hk]
        by_cases ek : k = m
        · simp (disch := omega) only [↓reduceIte, ic_t, ic_f, not_true_eq_false, not_false_eq_true, ↓lt_v, rdR, rdE, rdS, leT, leTc, leTd, leF, leFc, leFd, ltT, ltTc, ltTd, ltF, ltFc, ltFd, eqT, eqTc, eqTd, eqF, eqFc, eqFd, m1T, m1F, m1T', m1F', inb_nI, ix_nI, inb_c, ix_c, nI_1, nI_pred, nI_m1, add_nIc, add_cnI, bd_v, reduceCtorEq, eqFcc, m1e0, m1e1, m1l0, m1g0, m2l0, m2g0, Int32.reduceLT, Int32.reduceLE, Int32.reduceAdd, Int32.reduceSub, Int32.reduceMul, eq_self, Bool.false_eq_true]
          rw [if_neg (by omega), if_neg (by omega)]
        · simp (disch := omega) only [↓reduceIte, ic_t, ic_f, not_true_eq_false, not_false_eq_true, ↓lt_v, rdR, rdE, rdS, leT, leTc, leTd, leF, leFc, leFd, ltT, ltTc, ltTd, ltF, ltFc, ltFd, eqT, eqTc, eqTd, eqF, eqFc, eqFd, m1T, m1F, m1T', m1F', inb_nI, ix_nI, inb_c, ix_c, nI_1, nI_pred, nI_m1, add_nIc, add_cnI, bd_v, reduceCtorEq, eqFcc, m1e0, m1e1, m1l0, m1g0, m2l0, m2g0, Int32.reduceLT, Int32.reduceLE, Int32.reduceAdd, Int32.reduceSub, Int32.reduceMul, eq_self, Bool.false_eq_true, b1]
          congr 2
          by_cases c : k < a
          · rw [if_neg (by omega), if_pos c]
          · rw [if_pos (by omega), if_neg c, if_pos (by omega)]
      · simp (disch := omega) only [↓reduceIte, ic_t, ic_f, not_true_eq_false, not_false_eq_true, ↓lt_v, rdR, rdE, rdS, leT, leTc, leTd, leF, leFc, leFd, ltT, ltTc, ltTd, ltF, ltFc, ltFd, eqT, eqTc, eqTd, eqF, eqFc, eqFd, m1T, m1F, m1T', m1F', inb_nI, ix_nI, inb_c, ix_c, nI_1, nI_pred, nI_m1, add_nIc, add_cnI, bd_v, reduceCtorEq, eqFcc, m1e0, m1e1, m1l0, m1g0, m2l0, m2g0, Int32.reduceLT, Int32.reduceLE, Int32.reduceAdd, Int32.reduceSub, Int32.reduceMul, eq_self, Bool.false_eq_true]
        rw [b3.1 r (by omega), sc_lo (by omega)]; exact v6
      · simp (disch := omega) only [↓reduceIte, ic_t, ic_f, not_true_eq_false, not_false_eq_true, ↓lt_v, rdR, rdE, rdS, leT, leTc, leTd, leF, leFc, leFd, ltT, ltTc, ltTd, ltF, ltFc, ltFd, eqT, eqTc, eqTd, eqF, eqFc, eqFd, m1T, m1F, m1T', m1F', inb_nI, ix_nI, inb_c, ix_c, nI_1, nI_pred, nI_m1, add_nIc, add_cnI, bd_v, reduceCtorEq, eqFcc, m1e0, m1e1, m1l0, m1g0, m2l0, m2g0, Int32.reduceLT, Int32.reduceLE, Int32.reduceAdd, Int32.reduceSub, Int32.reduceMul, eq_self, Bool.false_eq_true]
        rw [b3.1 r (by omega), sc_lo (by omega)]; exact v7
      · simp (disch := omega) only [↓reduceIte, ic_t, ic_f, not_true_eq_false, not_false_eq_true, ↓lt_v, rdR, rdE, rdS, leT, leTc, leTd, leF, leFc, leFd, ltT, ltTc, ltTd, ltF, ltFc, ltFd, eqT, eqTc, eqTd, eqF, eqFc, eqFd, m1T, m1F, m1T', m1F', inb_nI, ix_nI, inb_c, ix_c, nI_1, nI_pred, nI_m1, add_nIc, add_cnI, bd_v, reduceCtorEq, eqFcc, m1e0, m1e1, m1l0, m1g0, m2l0, m2g0, Int32.reduceLT, Int32.reduceLE, Int32.reduceAdd, Int32.reduceSub, Int32.reduceMul, eq_self, Bool.false_eq_true]
        rw [b3.1 r (by omega), sc_lo (by omega)]; exact v8
      · simp (disch := omega) only [↓reduceIte, ic_t, ic_f, not_true_eq_false, not_false_eq_true, ↓lt_v, rdR, rdE, rdS, leT, leTc, leTd, leF, leFc, leFd, ltT, ltTc, ltTd, ltF, ltFc, ltFd, eqT, eqTc, eqTd, eqF, eqFc, eqFd, m1T, m1F, m1T', m1F', inb_nI, ix_nI, inb_c, ix_c, nI_1, nI_pred, nI_m1, add_nIc, add_cnI, bd_v, reduceCtorEq, eqFcc, m1e0, m1e1, m1l0, m1g0, m2l0, m2g0, Int32.reduceLT, Int32.reduceLE, Int32.reduceAdd, Int32.reduceSub, Int32.reduceMul, eq_self, Bool.false_eq_true]
        rw [b3.1 r (by omega), sc_lo (by omega)]; exact v9
    · rw [v5 j hj, if_neg (by omega)]
    · rw [pl j hj, if_neg (by omega)]
theorem r_foot {M : Mem} {n a x : Nat} {v : VV} (hw : WfV n v) (hl : ln x = 22) (hx : x ≠ 169) (h0 : M.1 169 3 = nI n) (hv : ∀ i, i < 22 → M.1 x i = v.1 i) (ha : a < n) : Ok (fX10_scratchesOne x (nI (v.2 a)) M) (fun q => q.1 = scA n a ∧ (∀ i, i < 22 → q.2.1 x i = (scV n a v).1 i) ∧ FrR (fun y => y = x) (fun _ => False) M q.2) := by
  have hn : n ≤ 6 := hw.1
  have hoa : v.2 a < n := (hw.2.1 a ha).1
  have hpa : v.1 (12 + v.2 a) = nI a := (hw.2.1 a ha).2
  have hh := r_isBoat_in h0 hn hoa
  have f0 : ∀ N : Mem, fX10_flag 0 N = some (0, N) := fun N => r_flagI (Or.inl rfl)
  have f1 : ∀ N : Mem, fX10_flag 1 N = some (1, N) := fun N => r_flagI (Or.inr rfl)
  rw [e_X10_scratchesOne]
  simp (disch := omega) only [↓reduceIte, ic_t, ic_f, not_true_eq_false, not_false_eq_true, ↓lt_v, rdR, rdE, rdS, leT, leTc, leTd, leF, leFc, leFd, ltT, ltTc, ltTd, ltF, ltFc, ltFd, eqT, eqTc, eqTd, eqF, eqFc, eqFd, m1T, m1F, m1T', m1F', inb_nI, ix_nI, inb_c, ix_c, nI_1, nI_pred, nI_m1, add_nIc, add_cnI, bd_v, reduceCtorEq, eqFcc, m1e0, m1e1, m1l0, m1g0, m2l0, m2g0, Int32.reduceLT, Int32.reduceLE, Int32.reduceAdd, Int32.reduceSub, Int32.reduceMul, eq_self, Bool.false_eq_true, hh, hl, hv, hpa]
  have hFU : 2000 < FU := FU_big
  generalize FU = fu0 at hFU ⊢
  refine ok_loop n (fun fu c s => fX10_scratchesOne_20 fu x (nI (v.2 a)) (nI a) (nI c) s) (fun c s => (∀ i, i < 22 → s.1 x i = if 12 ≤ i ∧ i < 12 + c then v.1 i - (if nI a < v.1 i then 1 else 0) else v.1 i) ∧ FrR (fun y => y = x) (fun _ => False) M s) ?_ ?_ fu0 0 M (by omega) (by omega) ⟨fun i hi => by rw [if_neg (by omega)]; exact hv i hi, frR_rfl⟩
  · intro fu c s hc hs ih
    obtain ⟨b1, b2⟩ := hs
    have e3 : s.1 169 3 = nI n := by rw [b2.2.1 3 (fun q => q)]; exact h0
    have ec : s.1 x (12 + c) = v.1 (12 + c) := by rw [b1 _ (by omega), if_neg (by omega)]
    have fin : ∀ z, z = v.1 (12 + c) - (if nI a < v.1 (12 + c) then 1 else 0) → Ok (fX10_scratchesOne_20 fu x (nI (v.2 a)) (nI a) (nI (c + 1)) (sI s x (12 + c) z)) (fun q => q.1 = scA n a ∧ (∀ i, i < 22 → q.2.1 x i = (scV n a v).1 i) ∧ FrR (fun y => y = x) (fun _ => False) M q.2) := by
      intro z hz
      refine ih _ ⟨fun i hi => ?_, frR_trans b2 (frR_sI (by omega) (by omega))⟩
      by_cases ei : i = 12 + c
      · subst ei
        simp (disch := omega) only [↓reduceIte, ic_t, ic_f, not_true_eq_false, not_false_eq_true, ↓lt_v, rdR, rdE, rdS, leT, leTc, leTd, leF, leFc, leFd, ltT, ltTc, ltTd, ltF, ltFc, ltFd, eqT, eqTc, eqTd, eqF, eqFc, eqFd, m1T, m1F, m1T', m1F', inb_nI, ix_nI, inb_c, ix_c, nI_1, nI_pred, nI_m1, add_nIc, add_cnI, bd_v, reduceCtorEq, eqFcc, m1e0, m1e1, m1l0, m1g0, m2l0, m2g0, Int32.reduceLT, Int32.reduceLE, Int32.reduceAdd, Int32.reduceSub, Int32.reduceMul, eq_self, Bool.false_eq_true, hz]
        rw [if_pos (show 12 ≤ 12 + c ∧ 12 + c < 12 + (c + 1) by omega)]
      · simp (disch := omega) only [↓reduceIte, ic_t, ic_f, not_true_eq_false, not_false_eq_true, ↓lt_v, rdR, rdE, rdS, leT, leTc, leTd, leF, leFc, leFd, ltT, ltTc, ltTd, ltF, ltFc, ltFd, eqT, eqTc, eqTd, eqF, eqFc, eqFd, m1T, m1F, m1T', m1F', inb_nI, ix_nI, inb_c, ix_c, nI_1, nI_pred, nI_m1, add_nIc, add_cnI, bd_v, reduceCtorEq, eqFcc, m1e0, m1e1, m1l0, m1g0, m2l0, m2g0, Int32.reduceLT, Int32.reduceLE, Int32.reduceAdd, Int32.reduceSub, Int32.reduceMul, eq_self, Bool.false_eq_true]
        rw [b1 i hi]
        by_cases c1 : 12 ≤ i ∧ i < 12 + c
        · rw [if_pos c1, if_pos (show 12 ≤ i ∧ i < 12 + (c + 1) by omega)]
        · rw [if_neg c1, if_neg (show ¬ (12 ≤ i ∧ i < 12 + (c + 1)) by omega)]
    rw [e_X10_scratchesOne_20]
    simp (disch := omega) only [↓reduceIte, ic_t, ic_f, not_true_eq_false, not_false_eq_true, ↓lt_v, rdR, rdE, rdS, leT, leTc, leTd, leF, leFc, leFd, ltT, ltTc, ltTd, ltF, ltFc, ltFd, eqT, eqTc, eqTd, eqF, eqFc, eqFd, m1T, m1F, m1T', m1F', inb_nI, ix_nI, inb_c, ix_c, nI_1, nI_pred, nI_m1, add_nIc, add_cnI, bd_v, reduceCtorEq, eqFcc, m1e0, m1e1, m1l0, m1g0, m2l0, m2g0, Int32.reduceLT, Int32.reduceLE, Int32.reduceAdd, Int32.reduceSub, Int32.reduceMul, eq_self, Bool.false_eq_true, e3, hl, ec]
    by_cases h : v.1 (12 + c) ≤ nI a
    · rw [ic_pos h]
      have hnl : ¬ nI a < v.1 (12 + c) := fun q => by rw [Int32.lt_iff_toInt_lt] at q; rw [Int32.le_iff_toInt_le] at h; omega
      simp (disch := omega) only [↓reduceIte, ic_t, ic_f, not_true_eq_false, not_false_eq_true, ↓lt_v, rdR, rdE, rdS, leT, leTc, leTd, leF, leFc, leFd, ltT, ltTc, ltTd, ltF, ltFc, ltFd, eqT, eqTc, eqTd, eqF, eqFc, eqFd, m1T, m1F, m1T', m1F', inb_nI, ix_nI, inb_c, ix_c, nI_1, nI_pred, nI_m1, add_nIc, add_cnI, bd_v, reduceCtorEq, eqFcc, m1e0, m1e1, m1l0, m1g0, m2l0, m2g0, Int32.reduceLT, Int32.reduceLE, Int32.reduceAdd, Int32.reduceSub, Int32.reduceMul, eq_self, Bool.false_eq_true, e_X10_scratchesOne_53, f0, hl]
      exact fin _ (by rw [if_neg hnl])
    · rw [ic_neg h]
      have hnl : nI a < v.1 (12 + c) := by rw [Int32.lt_iff_toInt_lt]; rw [Int32.le_iff_toInt_le] at h; omega
      simp (disch := omega) only [↓reduceIte, ic_t, ic_f, not_true_eq_false, not_false_eq_true, ↓lt_v, rdR, rdE, rdS, leT, leTc, leTd, leF, leFc, leFd, ltT, ltTc, ltTd, ltF, ltFc, ltFd, eqT, eqTc, eqTd, eqF, eqFc, eqFd, m1T, m1F, m1T', m1F', inb_nI, ix_nI, inb_c, ix_c, nI_1, nI_pred, nI_m1, add_nIc, add_cnI, bd_v, reduceCtorEq, eqFcc, m1e0, m1e1, m1l0, m1g0, m2l0, m2g0, Int32.reduceLT, Int32.reduceLE, Int32.reduceAdd, Int32.reduceSub, Int32.reduceMul, eq_self, Bool.false_eq_true, e_X10_scratchesOne_53, f1, hl]
      exact fin _ (by rw [if_pos hnl])
  · intro fu s hs
    obtain ⟨b1, b2⟩ := hs
    have e3 : s.1 169 3 = nI n := by rw [b2.2.1 3 (fun q => q)]; exact h0
    obtain ⟨m, rfl⟩ : ∃ m, n = m + 1 := ⟨n - 1, by omega⟩
    have row : ∀ i, i < 22 → (sI s x (12 + v.2 a) (nI m)).1 x i = (scV (m + 1) a v).1 i := by
      intro i hi
      show _ = (if 12 ≤ i ∧ i < 12 + (m + 1) then (if i = 12 + v.2 a then nI (m + 1 - 1) else v.1 i - (if nI a < v.1 i then 1 else 0)) else v.1 i)
      by_cases ei : i = 12 + v.2 a
      · subst ei
        simp (disch := omega) only [↓reduceIte, ic_t, ic_f, not_true_eq_false, not_false_eq_true, ↓lt_v, rdR, rdE, rdS, leT, leTc, leTd, leF, leFc, leFd, ltT, ltTc, ltTd, ltF, ltFc, ltFd, eqT, eqTc, eqTd, eqF, eqFc, eqFd, m1T, m1F, m1T', m1F', inb_nI, ix_nI, inb_c, ix_c, nI_1, nI_pred, nI_m1, add_nIc, add_cnI, bd_v, reduceCtorEq, eqFcc, m1e0, m1e1, m1l0, m1g0, m2l0, m2g0, Int32.reduceLT, Int32.reduceLE, Int32.reduceAdd, Int32.reduceSub, Int32.reduceMul, eq_self, Bool.false_eq_true]
        rw [if_pos (show 12 ≤ 12 + v.2 a ∧ 12 + v.2 a < 12 + (m + 1) by omega)]; rfl
      · simp (disch := omega) only [↓reduceIte, ic_t, ic_f, not_true_eq_false, not_false_eq_true, ↓lt_v, rdR, rdE, rdS, leT, leTc, leTd, leF, leFc, leFd, ltT, ltTc, ltTd, ltF, ltFc, ltFd, eqT, eqTc, eqTd, eqF, eqFc, eqFd, m1T, m1F, m1T', m1F', inb_nI, ix_nI, inb_c, ix_c, nI_1, nI_pred, nI_m1, add_nIc, add_cnI, bd_v, reduceCtorEq, eqFcc, m1e0, m1e1, m1l0, m1g0, m2l0, m2g0, Int32.reduceLT, Int32.reduceLE, Int32.reduceAdd, Int32.reduceSub, Int32.reduceMul, eq_self, Bool.false_eq_true]
        rw [b1 i hi]
        by_cases c1 : 12 ≤ i ∧ i < 12 + (m + 1)
        · rw [if_pos c1, if_pos c1, if_neg ei]
        · rw [if_neg c1, if_neg c1]
    rw [e_X10_scratchesOne_20]
    unfold scA
    by_cases ea : a = m
    · simp (disch := omega) only [↓reduceIte, ic_t, ic_f, not_true_eq_false, not_false_eq_true, ↓lt_v, rdR, rdE, rdS, leT, leTc, leTd, leF, leFc, leFd, ltT, ltTc, ltTd, ltF, ltFc, ltFd, eqT, eqTc, eqTd, eqF, eqFc, eqFd, m1T, m1F, m1T', m1F', inb_nI, ix_nI, inb_c, ix_c, nI_1, nI_pred, nI_m1, add_nIc, add_cnI, bd_v, reduceCtorEq, eqFcc, m1e0, m1e1, m1l0, m1g0, m2l0, m2g0, Int32.reduceLT, Int32.reduceLE, Int32.reduceAdd, Int32.reduceSub, Int32.reduceMul, eq_self, Bool.false_eq_true, e3, hl]
      rw [if_pos (by omega)]
      exact ok_some ⟨rfl, row, frR_trans b2 (frR_sI (by omega) (by omega))⟩
    · simp (disch := omega) only [↓reduceIte, ic_t, ic_f, not_true_eq_false, not_false_eq_true, ↓lt_v, rdR, rdE, rdS, leT, leTc, leTd, leF, leFc, leFd, ltT, ltTc, ltTd, ltF, ltFc, ltFd, eqT, eqTc, eqTd, eqF, eqFc, eqFd, m1T, m1F, m1T', m1F', inb_nI, ix_nI, inb_c, ix_c, nI_1, nI_pred, nI_m1, add_nIc, add_cnI, bd_v, reduceCtorEq, eqFcc, m1e0, m1e1, m1l0, m1g0, m2l0, m2g0, Int32.reduceLT, Int32.reduceLE, Int32.reduceAdd, Int32.reduceSub, Int32.reduceMul, eq_self, Bool.false_eq_true, e3, hl]
      rw [if_neg (by omega)]
      exact ok_some ⟨rfl, row, frR_trans b2 (frR_sI (by omega) (by omega))⟩
