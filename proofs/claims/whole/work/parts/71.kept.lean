/-! PURE: undo, keep, again, heard, count -/
theorem st_undo {M : Mem} (h : Rel M) : StI (fun M => fX9_undo M) (fun M => fX10_undo M) M := by
  obtain ⟨S, hS, hc, hr⟩ := h
  have hn : S.1.1 ≤ 6 := hS.1.1
  have hR := hc.1.2.2.2.2
  have hc0 := hc
  have h15 := hS.2.2.1
  have e26 := hc.2.2.2.2.1.2.1
  by_cases h0 : S.2.2.2.1.1 = 0
  · refine st_no (x := -1) hS hc hr ?_ (fun M1 h1 => ?_)
    · show fX9_undo M = _
      rw [e_X9_undo, e_X2_pop]
      simp (disch := omega) only [↓reduceIte, ic_t, ic_f, not_true_eq_false, not_false_eq_true, ↓lt_v, rdR, rdE, rdS, leT, leTc, leTd, leF, leFc, leFd, ltT, ltTc, ltTd, ltF, ltFc, ltFd, eqT, eqTc, eqTd, eqF, eqFc, eqFd, m1T, m1F, m1T', m1F', inb_nI, ix_nI, inb_c, ix_c, nI_1, nI_pred, nI_m1, add_nIc, add_cnI, bd_v, reduceCtorEq, eqFcc, m1e0, m1e1, m1l0, m1g0, m2l0, m2g0, Int32.reduceLT, Int32.reduceLE, Int32.reduceAdd, Int32.reduceSub, Int32.reduceMul, eq_self, Bool.false_eq_true, e26]
    · show fX10_undo M1 = _
      rw [e_X10_undo]
      simp (disch := omega) only [↓reduceIte, ic_t, ic_f, not_true_eq_false, not_false_eq_true, ↓lt_v, rdR, rdE, rdS, leT, leTc, leTd, leF, leFc, leFd, ltT, ltTc, ltTd, ltF, ltFc, ltFd, eqT, eqTc, eqTd, eqF, eqFc, eqFd, m1T, m1F, m1T', m1F', inb_nI, ix_nI, inb_c, ix_c, nI_1, nI_pred, nI_m1, add_nIc, add_cnI, bd_v, reduceCtorEq, eqFcc, m1e0, m1e1, m1l0, m1g0, m2l0, m2g0, Int32.reduceLT, Int32.reduceLE, Int32.reduceAdd, Int32.reduceSub, Int32.reduceMul, eq_self, Bool.false_eq_true, h1.2.2.2.1.1]
  · obtain ⟨P, hP⟩ : ∃ P, S.2.2.2.1.1 = P + 1 := ⟨S.2.2.2.1.1 - 1, by omega⟩
    have hw : WfV S.1.1 (S.2.2.2.1.2 P) := hS.2.2.2.1 P (by omega)
    refine st_gen (S := S) (S' := ((S.1.1, S.2.2.2.1.2 P, S.1.2.2), S.2.1, S.2.2.1, (P, S.2.2.2.1.2), S.2.2.2.2)) (x := nI P) ⟨hw, hS.2.1, by show P ≤ 15; omega, fun j hj => hS.2.2.2.1 j (by have hj : j < P := hj; omega), hS.2.2.2.2⟩ hr ?_ (fun M1 h1 => ?_)
    · show Ok (fX9_undo M) _
      obtain ⟨h1, h2, h3, h4, h5, h6, h7, h8⟩ := hc
      obtain ⟨c, hcc, ec⟩ := h5.2.2.1 P (by omega)
      have hsrc : RvC (M.2.2 27 P) S.1.1 (S.2.2.2.1.2 P) (sI M 26 1 (nI P)) := rivC_fr (h5.2.2.2.2 P (by omega)) (fun a _ _ => row_n (by omega))
      rw [e_X9_undo, e_X2_pop]
      rw [hP] at e26
      simp (disch := omega) only [↓reduceIte, ic_t, ic_f, not_true_eq_false, not_false_eq_true, ↓lt_v, rdR, rdE, rdS, leT, leTc, leTd, leF, leFc, leFd, ltT, ltTc, ltTd, ltF, ltFc, ltFd, eqT, eqTc, eqTd, eqF, eqFc, eqFd, m1T, m1F, m1T', m1F', inb_nI, ix_nI, inb_c, ix_c, nI_1, nI_pred, nI_m1, add_nIc, add_cnI, bd_v, reduceCtorEq, eqFcc, m1e0, m1e1, m1l0, m1g0, m2l0, m2g0, Int32.reduceLT, Int32.reduceLE, Int32.reduceAdd, Int32.reduceSub, Int32.reduceMul, eq_self, Bool.false_eq_true, e26]
      refine ok_bind (ok_call (c_copy (r := 6) (r2 := M.2.2 27 P) hn (by omega) hsrc) (fun M1 g => ok_some ?_))
      obtain ⟨g1, g2⟩ := g
      have e1 : M1.1 26 1 = nI P := by rw [g2.1 26 (by omega)]; exact rdE rfl rfl
      have er : M1.2.2 = M.2.2 := by rw [g2.2]; rfl
      simp (disch := omega) only [↓reduceIte, ic_t, ic_f, not_true_eq_false, not_false_eq_true, ↓lt_v, rdR, rdE, rdS, leT, leTc, leTd, leF, leFc, leFd, ltT, ltTc, ltTd, ltF, ltFc, ltFd, eqT, eqTc, eqTd, eqF, eqFc, eqFd, m1T, m1F, m1T', m1F', inb_nI, ix_nI, inb_c, ix_c, nI_1, nI_pred, nI_m1, add_nIc, add_cnI, bd_v, reduceCtorEq, eqFcc, m1e0, m1e1, m1l0, m1g0, m2l0, m2g0, Int32.reduceLT, Int32.reduceLE, Int32.reduceAdd, Int32.reduceSub, Int32.reduceMul, eq_self, Bool.false_eq_true, e1]
      refine ok_some ⟨rfl, crel_make hc0 ⟨rfl, rfl, rfl, rfl, rfl⟩ hw (fun a ha _ => by rw [g2.1 a (by omega), row_n (by omega)]) (by show M1.2.1 = _; rw [g2.2]; rfl) (fun a i _ => by show M1.2.2 a i = _; rw [er]) g1 ⟨by show P ≤ 15; omega, e1, by rw [er]; exact h5.2.2.1, by rw [er]; exact h5.2.2.2.1, fun j hj => ?_⟩, fun a ha => ⟨by rw [g2.1 a (by omega), row_n (by omega)], by show M1.2.1 a = _; rw [g2.2]; rfl⟩⟩
      have hj : j < P := hj
      rw [show ((nI P, M1) : Int32 × Mem).2.2.2 27 j = M.2.2 27 j by show M1.2.2 27 j = _; rw [er]]
      obtain ⟨c2, hc2, ec2⟩ := h5.2.2.1 j (by omega)
      exact rivC_fr (h5.2.2.2.2 j (by omega)) (fun a _ _ => by show M1.1 a = _; rw [g2.1 a (by omega), row_n (by omega)])
    · show Ok (fX10_undo M1) _
      have hr0 := h1
      obtain ⟨h1, h2, h3, h4, h5, h6⟩ := h1
      have e28 := h4.1
      rw [hP] at e28
      rw [e_X10_undo]
      simp (disch := omega) only [↓reduceIte, ic_t, ic_f, not_true_eq_false, not_false_eq_true, ↓lt_v, rdR, rdE, rdS, leT, leTc, leTd, leF, leFc, leFd, ltT, ltTc, ltTd, ltF, ltFc, ltFd, eqT, eqTc, eqTd, eqF, eqFc, eqFd, m1T, m1F, m1T', m1F', inb_nI, ix_nI, inb_c, ix_c, nI_1, nI_pred, nI_m1, add_nIc, add_cnI, bd_v, reduceCtorEq, eqFcc, m1e0, m1e1, m1l0, m1g0, m2l0, m2g0, Int32.reduceLT, Int32.reduceLE, Int32.reduceAdd, Int32.reduceSub, Int32.reduceMul, eq_self, Bool.false_eq_true, e28]
      have hFU : 2000 < FU := FU_big
      generalize FU = fu0 at hFU ⊢
      refine ok_loop 22 (fun fu k s => fX10_undo_26 fu (nI k) s) (fun k s => (∀ i, i < k → s.1 171 i = (S.2.2.2.1.2 P).1 i) ∧ s.1 169 28 = nI P ∧ FrR (fun a => a = 171) (fun i => i = 0 ∨ i = 28) M1 s) ?_ ?_ fu0 0 _ (by omega) (by omega) ⟨fun i hi => absurd hi (Nat.not_lt_zero _), rdE rfl rfl, frR_trans (frR_sI (by omega) (by omega)) (frR_sI (by omega) (by omega))⟩
      · intro fu k s hk hs ih
        obtain ⟨b1, b2, b3⟩ := hs
        have e22 : (22 : Int32) * nI P = nI (22 * P) := by rw [show (22 : Int32) = nI 22 from rfl, pk_mul]
        have e185 : s.1 185 (22 * P + k) = (S.2.2.2.1.2 P).1 k := by rw [b3.1 185 (by omega) (by omega)]; exact h4.2 P (by omega) k hk
        rw [e_X10_undo_26]
        simp (disch := omega) only [↓reduceIte, ic_t, ic_f, not_true_eq_false, not_false_eq_true, ↓lt_v, rdR, rdE, rdS, leT, leTc, leTd, leF, leFc, leFd, ltT, ltTc, ltTd, ltF, ltFc, ltFd, eqT, eqTc, eqTd, eqF, eqFc, eqFd, m1T, m1F, m1T', m1F', inb_nI, ix_nI, inb_c, ix_c, nI_1, nI_pred, nI_m1, add_nIc, add_cnI, bd_v, reduceCtorEq, eqFcc, m1e0, m1e1, m1l0, m1g0, m2l0, m2g0, Int32.reduceLT, Int32.reduceLE, Int32.reduceAdd, Int32.reduceSub, Int32.reduceMul, eq_self, Bool.false_eq_true, b2, e22, nI_add, e185]
        refine ih _ ⟨fun i hi => ?_, by simp (disch := omega) only [↓reduceIte, ic_t, ic_f, not_true_eq_false, not_false_eq_true, ↓lt_v, rdR, rdE, rdS, leT, leTc, leTd, leF, leFc, leFd, ltT, ltTc, ltTd, ltF, ltFc, ltFd, eqT, eqTc, eqTd, eqF, eqFc, eqFd, m1T, m1F, m1T', m1F', inb_nI, ix_nI, inb_c, ix_c, nI_1, nI_pred, nI_m1, add_nIc, add_cnI, bd_v, reduceCtorEq, eqFcc, m1e0, m1e1, m1l0, m1g0, m2l0, m2g0, Int32.reduceLT, Int32.reduceLE, Int32.reduceAdd, Int32.reduceSub, Int32.reduceMul, eq_self, Bool.false_eq_true, b2], frR_trans b3 (frR_sI (by omega) (by omega))⟩
        by_cases e : i = k
        · subst e; simp (disch := omega) only [↓reduceIte, ic_t, ic_f, not_true_eq_false, not_false_eq_true, ↓lt_v, rdR, rdE, rdS, leT, leTc, leTd, leF, leFc, leFd, ltT, ltTc, ltTd, ltF, ltFc, ltFd, eqT, eqTc, eqTd, eqF, eqFc, eqFd, m1T, m1F, m1T', m1F', inb_nI, ix_nI, inb_c, ix_c, nI_1, nI_pred, nI_m1, add_nIc, add_cnI, bd_v, reduceCtorEq, eqFcc, m1e0, m1e1, m1l0, m1g0, m2l0, m2g0, Int32.reduceLT, Int32.reduceLE, Int32.reduceAdd, Int32.reduceSub, Int32.reduceMul, eq_self, Bool.false_eq_true]
        · simp (disch := omega) only [↓reduceIte, ic_t, ic_f, not_true_eq_false, not_false_eq_true, ↓lt_v, rdR, rdE, rdS, leT, leTc, leTd, leF, leFc, leFd, ltT, ltTc, ltTd, ltF, ltFc, ltFd, eqT, eqTc, eqTd, eqF, eqFc, eqFd, m1T, m1F, m1T', m1F', inb_nI, ix_nI, inb_c, ix_c, nI_1, nI_pred, nI_m1, add_nIc, add_cnI, bd_v, reduceCtorEq, eqFcc, m1e0, m1e1, m1l0, m1g0, m2l0, m2g0, Int32.reduceLT, Int32.reduceLE, Int32.reduceAdd, Int32.reduceSub, Int32.reduceMul, eq_self, Bool.false_eq_true]
          exact b1 i (by omega)
      · intro fu s hs
        obtain ⟨b1, b2, b3⟩ := hs
        rw [e_X10_undo_26]
        simp (disch := omega) only [↓reduceIte, ic_t, ic_f, not_true_eq_false, not_false_eq_true, ↓lt_v, rdR, rdE, rdS, leT, leTc, leTd, leF, leFc, leFd, ltT, ltTc, ltTd, ltF, ltFc, ltFd, eqT, eqTc, eqTd, eqF, eqFc, eqFd, m1T, m1F, m1T', m1F', inb_nI, ix_nI, inb_c, ix_c, nI_1, nI_pred, nI_m1, add_nIc, add_cnI, bd_v, reduceCtorEq, eqFcc, m1e0, m1e1, m1l0, m1g0, m2l0, m2g0, Int32.reduceLT, Int32.reduceLE, Int32.reduceAdd, Int32.reduceSub, Int32.reduceMul, eq_self, Bool.false_eq_true, b2]
        exact ok_some ⟨rfl, rrel_make hr0 ⟨rfl, rfl, rfl, rfl, rfl⟩ hw (fun a c1 c2 c3 _ => b3.1 a c1 c2) (fun i c1 c2 c3 => b3.2.1 i (fun q => c3 (by unfold SS; omega))) (b3.2.1 1 (by omega)) (by rw [b3.2.2]) b1 ⟨b2, fun j hj i hi => by rw [b3.1 185 (by omega) (by omega)]; exact h4.2 j (by have hj : j < P := hj; omega) i hi⟩, fun a ha => ⟨b3.1 a (by omega) (by omega), by show s.2.1 a = _; rw [b3.2.2]⟩, by show s.2.2 = _; rw [b3.2.2]⟩
theorem e22m {i : Nat} : (22 : Int32) * nI i = nI (22 * i) := by rw [show (22 : Int32) = nI 22 from rfl, pk_mul]
theorem st_keep {M : Mem} {x : Int32} (h : Rel M) : StI (fun M => fX9_keep x M) (fun M => fX10_keep x M) M := by
  obtain ⟨S, hS, hc, hr⟩ := h
  have hn : S.1.1 ≤ 6 := hS.1.1
  have hR := hc.1.2.2.2.2
  rcases range_cases x 0 2 (by omega) (by omega) with ⟨c, _, hc3, rfl⟩ | ⟨hx, hx2⟩
  · refine st_gen (S := S) (S' := (S.1, S.2.1, S.2.2.1, S.2.2.2.1, (up1 S.2.2.2.2.1.1 c true, up1 S.2.2.2.2.1.2 c S.1.2.1), S.2.2.2.2.2)) (x := 1) ⟨hS.1, hS.2.1, hS.2.2.1, hS.2.2.2.1, fun i hi => ?_⟩ hr ?_ (fun M1 h1 => ?_)
    · show WfV S.1.1 (up1 S.2.2.2.2.1.2 c S.1.2.1 i)
      by_cases e : i = c
      · rw [up1_e e]; exact hS.1
      · rw [up1_n e]
        have hi : up1 S.2.2.2.2.1.1 c true i = true := hi
        rw [up1_n e] at hi
        exact hS.2.2.2.2 i hi
    · show Ok (fX9_keep (nI c) M) _
      have hc0 := hc
      obtain ⟨h1, h2, h3, h4, h5, h6, h7, h8⟩ := hc
      have er := (h6 c (by omega)).1.1
      rw [e_X9_keep]
      simp (disch := omega) only [↓reduceIte, ic_t, ic_f, not_true_eq_false, not_false_eq_true, ↓lt_v, rdR, rdE, rdS, leT, leTc, leTd, leF, leFc, leFd, ltT, ltTc, ltTd, ltF, ltFc, ltFd, eqT, eqTc, eqTd, eqF, eqFc, eqFd, m1T, m1F, m1T', m1F', inb_nI, ix_nI, inb_c, ix_c, nI_1, nI_pred, nI_m1, add_nIc, add_cnI, bd_v, reduceCtorEq, eqFcc, m1e0, m1e1, m1l0, m1g0, m2l0, m2g0, Int32.reduceLT, Int32.reduceLE, Int32.reduceAdd, Int32.reduceSub, Int32.reduceMul, eq_self, Bool.false_eq_true, er, nn11]
      refine ok_call (c_copy (r := 154 + 5 * c) (r2 := 6) hn (by omega) h1.2.1) (fun M1 g => ok_some ?_)
      obtain ⟨g1, g2⟩ := g
      have ro : ∀ a, ¬ (154 + 5 * c ≤ a ∧ a ≤ 158 + 5 * c) → a ≠ 104 → (sI M1 104 c 1).1 a = M.1 a := fun a b1 b2 => by rw [row_n b2, g2.1 a (by omega)]
      have re : (sI M1 104 c 1).2 = M.2 := by show M1.2 = _; rw [g2.2]
      refine ⟨rfl, crel_all hc0 ⟨rfl, rfl⟩ h1.1 (by rw [re]; exact ⟨rfl, rfl⟩) ⟨ro _ (by omega) (by omega), ro _ (by omega) (by omega)⟩ (rivC_fr h1.2.1 (fun a _ _ => ro a (by omega) (by omega))) (txC_fr h3 (ro 2 (by omega) (by omega)) (ro 3 (by omega) (by omega))) (rwC_fr h4 (ro 4 (by omega) (by omega)) (by rw [re])) (psC_fr h5 (fun a _ _ => ro a (by omega) (by omega)) (by rw [re])) ?_ (hC_fr h7 (fun a ha => ro a (by omega) (by omega))) ⟨ro 115 (by omega) (by omega), ro 137 (by omega) (by omega)⟩, fun a ha => ⟨ro a (by omega) (by omega), by show (sI M1 104 c 1).2.1 a = _; rw [re]⟩⟩
      intro i hi
      show ((sI M1 104 c 1).2.2 103 i = _ ∧ (sI M1 104 c 1).1 104 i = bI (up1 S.2.2.2.2.1.1 c true i)) ∧ (up1 S.2.2.2.2.1.1 c true i = true → RvC (154 + 5 * i) S.1.1 (up1 S.2.2.2.2.1.2 c S.1.2.1 i) (sI M1 104 c 1))
      rw [re]
      by_cases e : i = c
      · subst e
        refine ⟨⟨er, by rw [rdE rfl rfl, up1_e rfl]; rfl⟩, fun _ => ?_⟩
        rw [up1_e rfl]
        exact rivC_fr g1 (fun a _ _ => row_n (by omega))
      · refine ⟨⟨(h6 i hi).1.1, by rw [rdS e, up1_n e, g2.1 104 (by omega)]; exact (h6 i hi).1.2⟩, fun hk => ?_⟩
        rw [up1_n e] at hk ⊢
        exact rivC_fr ((h6 i hi).2 hk) (fun a _ _ => ro a (by omega) (by omega))
    · show Ok (fX10_keep (nI c) M1) _
      have hr0 := h1
      obtain ⟨h1, h2, h3, h4, h5, h6⟩ := h1
      obtain ⟨cc, hcc, e4, hk⟩ := h5
      have hi : ∀ M : Mem, fX10_in (nI c).toInt64 0 2 M = some (1, M) := fun M => by rw [r_inI (lo := 0) (hi := 2) (by decide) (by decide), nI_toInt (by omega), if_pos (by omega)]
      rw [e_X10_keep]
      simp (disch := omega) only [↓reduceIte, ic_t, ic_f, not_true_eq_false, not_false_eq_true, ↓lt_v, rdR, rdE, rdS, leT, leTc, leTd, leF, leFc, leFd, ltT, ltTc, ltTd, ltF, ltFc, ltFd, eqT, eqTc, eqTd, eqF, eqFc, eqFd, m1T, m1F, m1T', m1F', inb_nI, ix_nI, inb_c, ix_c, nI_1, nI_pred, nI_m1, add_nIc, add_cnI, bd_v, reduceCtorEq, eqFcc, m1e0, m1e1, m1l0, m1g0, m2l0, m2g0, Int32.reduceLT, Int32.reduceLE, Int32.reduceAdd, Int32.reduceSub, Int32.reduceMul, eq_self, Bool.false_eq_true, hi, nn11, e4]
      have hFU : 2000 < FU := FU_big
      generalize FU = fu0 at hFU ⊢
      refine ok_loop 22 (fun fu k s => fX10_keep_38 fu (nI c) (nI k) s) (fun k s => (∀ i, i < k → s.1 204 (22 * c + i) = S.1.2.1.1 i) ∧ (∀ i, ¬ (22 * c ≤ i ∧ i < 22 * c + 22) → s.1 204 i = M1.1 204 i) ∧ (∀ i, s.1 202 i = if i = c then 1 else M1.1 202 i) ∧ (∀ i, s.1 203 i = if i = c then nI cc else M1.1 203 i) ∧ FrR (fun a => a = 202 ∨ a = 203 ∨ a = 204) (fun i => i = 0) M1 s) ?_ ?_ fu0 0 _ (by omega) (by omega) ⟨fun i hi => absurd hi (Nat.not_lt_zero _), fun i _ => by simp (disch := omega) only [↓reduceIte, ic_t, ic_f, not_true_eq_false, not_false_eq_true, ↓lt_v, rdR, rdE, rdS, leT, leTc, leTd, leF, leFc, leFd, ltT, ltTc, ltTd, ltF, ltFc, ltFd, eqT, eqTc, eqTd, eqF, eqFc, eqFd, m1T, m1F, m1T', m1F', inb_nI, ix_nI, inb_c, ix_c, nI_1, nI_pred, nI_m1, add_nIc, add_cnI, bd_v, reduceCtorEq, eqFcc, m1e0, m1e1, m1l0, m1g0, m2l0, m2g0, Int32.reduceLT, Int32.reduceLE, Int32.reduceAdd, Int32.reduceSub, Int32.reduceMul, eq_self, Bool.false_eq_true], fun i => ?_, fun i => ?_, by repeat (first | exact frR_rfl | refine frR_trans ?_ (frR_sI (by omega) (by omega)))⟩
      · intro fu k s hk hs ih
        obtain ⟨b1, b2, b3, b4, b5⟩ := hs
        have e171 : s.1 171 k = S.1.2.1.1 k := by rw [b5.1 171 (by omega) (by omega)]; exact h1.2.2.1 k hk
        rw [e_X10_keep_38]
        simp (disch := omega) only [↓reduceIte, ic_t, ic_f, not_true_eq_false, not_false_eq_true, ↓lt_v, rdR, rdE, rdS, leT, leTc, leTd, leF, leFc, leFd, ltT, ltTc, ltTd, ltF, ltFc, ltFd, eqT, eqTc, eqTd, eqF, eqFc, eqFd, m1T, m1F, m1T', m1F', inb_nI, ix_nI, inb_c, ix_c, nI_1, nI_pred, nI_m1, add_nIc, add_cnI, bd_v, reduceCtorEq, eqFcc, m1e0, m1e1, m1l0, m1g0, m2l0, m2g0, Int32.reduceLT, Int32.reduceLE, Int32.reduceAdd, Int32.reduceSub, Int32.reduceMul, eq_self, Bool.false_eq_true, e171, e22m, nI_add]
        refine ih _ ⟨fun i hi => ?_, fun i hi => ?_, fun i => ?_, fun i => ?_, frR_trans b5 (frR_sI (by omega) (by omega))⟩
        · by_cases e : i = k
          · subst e; simp (disch := omega) only [↓reduceIte, ic_t, ic_f, not_true_eq_false, not_false_eq_true, ↓lt_v, rdR, rdE, rdS, leT, leTc, leTd, leF, leFc, leFd, ltT, ltTc, ltTd, ltF, ltFc, ltFd, eqT, eqTc, eqTd, eqF, eqFc, eqFd, m1T, m1F, m1T', m1F', inb_nI, ix_nI, inb_c, ix_c, nI_1, nI_pred, nI_m1, add_nIc, add_cnI, bd_v, reduceCtorEq, eqFcc, m1e0, m1e1, m1l0, m1g0, m2l0, m2g0, Int32.reduceLT, Int32.reduceLE, Int32.reduceAdd, Int32.reduceSub, Int32.reduceMul, eq_self, Bool.false_eq_true]
          · simp (disch := omega) only [↓reduceIte, ic_t, ic_f, not_true_eq_false, not_false_eq_true, ↓lt_v, rdR, rdE, rdS, leT, leTc, leTd, leF, leFc, leFd, ltT, ltTc, ltTd, ltF, ltFc, ltFd, eqT, eqTc, eqTd, eqF, eqFc, eqFd, m1T, m1F, m1T', m1F', inb_nI, ix_nI, inb_c, ix_c, nI_1, nI_pred, nI_m1, add_nIc, add_cnI, bd_v, reduceCtorEq, eqFcc, m1e0, m1e1, m1l0, m1g0, m2l0, m2g0, Int32.reduceLT, Int32.reduceLE, Int32.reduceAdd, Int32.reduceSub, Int32.reduceMul, eq_self, Bool.false_eq_true]
            exact b1 i (by omega)
        · simp (disch := omega) only [↓reduceIte, ic_t, ic_f, not_true_eq_false, not_false_eq_true, ↓lt_v, rdR, rdE, rdS, leT, leTc, leTd, leF, leFc, leFd, ltT, ltTc, ltTd, ltF, ltFc, ltFd, eqT, eqTc, eqTd, eqF, eqFc, eqFd, m1T, m1F, m1T', m1F', inb_nI, ix_nI, inb_c, ix_c, nI_1, nI_pred, nI_m1, add_nIc, add_cnI, bd_v, reduceCtorEq, eqFcc, m1e0, m1e1, m1l0, m1g0, m2l0, m2g0, Int32.reduceLT, Int32.reduceLE, Int32.reduceAdd, Int32.reduceSub, Int32.reduceMul, eq_self, Bool.false_eq_true]
          exact b2 i hi
        · simp (disch := omega) only [↓reduceIte, ic_t, ic_f, not_true_eq_false, not_false_eq_true, ↓lt_v, rdR, rdE, rdS, leT, leTc, leTd, leF, leFc, leFd, ltT, ltTc, ltTd, ltF, ltFc, ltFd, eqT, eqTc, eqTd, eqF, eqFc, eqFd, m1T, m1F, m1T', m1F', inb_nI, ix_nI, inb_c, ix_c, nI_1, nI_pred, nI_m1, add_nIc, add_cnI, bd_v, reduceCtorEq, eqFcc, m1e0, m1e1, m1l0, m1g0, m2l0, m2g0, Int32.reduceLT, Int32.reduceLE, Int32.reduceAdd, Int32.reduceSub, Int32.reduceMul, eq_self, Bool.false_eq_true]
          exact b3 i
        · simp (disch := omega) only [↓reduceIte, ic_t, ic_f, not_true_eq_false, not_false_eq_true, ↓lt_v, rdR, rdE, rdS, leT, leTc, leTd, leF, leFc, leFd, ltT, ltTc, ltTd, ltF, ltFc, ltFd, eqT, eqTc, eqTd, eqF, eqFc, eqFd, m1T, m1F, m1T', m1F', inb_nI, ix_nI, inb_c, ix_c, nI_1, nI_pred, nI_m1, add_nIc, add_cnI, bd_v, reduceCtorEq, eqFcc, m1e0, m1e1, m1l0, m1g0, m2l0, m2g0, Int32.reduceLT, Int32.reduceLE, Int32.reduceAdd, Int32.reduceSub, Int32.reduceMul, eq_self, Bool.false_eq_true]
          exact b4 i
      · intro fu s hs
        obtain ⟨b1, b2, b3, b4, b5⟩ := hs
        rw [e_X10_keep_38]
        simp (disch := omega) only [↓reduceIte, ic_t, ic_f, not_true_eq_false, not_false_eq_true, ↓lt_v, rdR, rdE, rdS, leT, leTc, leTd, leF, leFc, leFd, ltT, ltTc, ltTd, ltF, ltFc, ltFd, eqT, eqTc, eqTd, eqF, eqFc, eqFd, m1T, m1F, m1T', m1F', inb_nI, ix_nI, inb_c, ix_c, nI_1, nI_pred, nI_m1, add_nIc, add_cnI, bd_v, reduceCtorEq, eqFcc, m1e0, m1e1, m1l0, m1g0, m2l0, m2g0, Int32.reduceLT, Int32.reduceLE, Int32.reduceAdd, Int32.reduceSub, Int32.reduceMul, eq_self, Bool.false_eq_true]
        refine ok_some ⟨rfl, rrel_all hr0 ⟨rfl, rfl⟩ h1.1 (b5.1 175 (by omega) (by omega)) (fun i hi => b5.2.1 i (by omega)) (fun i hi => by rw [b5.1 171 (by omega) (by omega)]; exact h1.2.2.1 i hi) (txR_fr h2 (b5.2.1 8 (by omega)) (b5.1 173 (by omega) (by omega))) (rwR_fr h3 (b5.2.1 1 (by omega)) (by rw [b5.2.2])) (psR_fr h4 (b5.2.1 28 (by omega)) (b5.1 185 (by omega) (by omega))) ?_ (hR_fr h6 (b5.2.1 45 (by omega)) (fun a ha => b5.1 a (by omega) (by omega))), fun a ha => ⟨b5.1 a (by omega) (by omega), by show s.2.1 a = _; rw [b5.2.2]⟩, by show s.2.2 = _; rw [b5.2.2]⟩
        refine ⟨cc, hcc, by rw [b5.2.1 4 (by omega)]; exact e4, fun i hi => ?_⟩
        show ∃ b kc, s.1 202 i = bI b ∧ kc ≤ cc ∧ s.1 203 i = nI kc ∧ up1 S.2.2.2.2.1.1 c true i = (b && decide (kc = cc)) ∧ (up1 S.2.2.2.2.1.1 c true i = true → ∀ j, j < 22 → s.1 204 (22 * i + j) = (up1 S.2.2.2.2.1.2 c S.1.2.1 i).1 j)
        by_cases e : i = c
        · subst e
          refine ⟨true, cc, by rw [b3, if_pos rfl]; rfl, Nat.le_refl _, by rw [b4, if_pos rfl], by rw [up1_e rfl]; simp, fun _ j hj => ?_⟩
          rw [up1_e rfl]
          exact b1 j hj
        · obtain ⟨b, kc, k1, k2, k3, k4, k5⟩ := hk i hi
          refine ⟨b, kc, by rw [b3, if_neg e]; exact k1, k2, by rw [b4, if_neg e]; exact k3, by rw [up1_n e]; exact k4, fun hks j hj => ?_⟩
          rw [up1_n e] at hks ⊢
          rw [b2 _ (by omega)]
          exact k5 hks j hj
      · by_cases e : i = c
        · rw [if_pos e]; subst e; simp (disch := omega) only [↓reduceIte, ic_t, ic_f, not_true_eq_false, not_false_eq_true, ↓lt_v, rdR, rdE, rdS, leT, leTc, leTd, leF, leFc, leFd, ltT, ltTc, ltTd, ltF, ltFc, ltFd, eqT, eqTc, eqTd, eqF, eqFc, eqFd, m1T, m1F, m1T', m1F', inb_nI, ix_nI, inb_c, ix_c, nI_1, nI_pred, nI_m1, add_nIc, add_cnI, bd_v, reduceCtorEq, eqFcc, m1e0, m1e1, m1l0, m1g0, m2l0, m2g0, Int32.reduceLT, Int32.reduceLE, Int32.reduceAdd, Int32.reduceSub, Int32.reduceMul, eq_self, Bool.false_eq_true]
        · rw [if_neg e]; simp (disch := omega) only [↓reduceIte, ic_t, ic_f, not_true_eq_false, not_false_eq_true, ↓lt_v, rdR, rdE, rdS, leT, leTc, leTd, leF, leFc, leFd, ltT, ltTc, ltTd, ltF, ltFc, ltFd, eqT, eqTc, eqTd, eqF, eqFc, eqFd, m1T, m1F, m1T', m1F', inb_nI, ix_nI, inb_c, ix_c, nI_1, nI_pred, nI_m1, add_nIc, add_cnI, bd_v, reduceCtorEq, eqFcc, m1e0, m1e1, m1l0, m1g0, m2l0, m2g0, Int32.reduceLT, Int32.reduceLE, Int32.reduceAdd, Int32.reduceSub, Int32.reduceMul, eq_self, Bool.false_eq_true]
      · by_cases e : i = c
        · rw [if_pos e]; subst e; simp (disch := omega) only [↓reduceIte, ic_t, ic_f, not_true_eq_false, not_false_eq_true, ↓lt_v, rdR, rdE, rdS, leT, leTc, leTd, leF, leFc, leFd, ltT, ltTc, ltTd, ltF, ltFc, ltFd, eqT, eqTc, eqTd, eqF, eqFc, eqFd, m1T, m1F, m1T', m1F', inb_nI, ix_nI, inb_c, ix_c, nI_1, nI_pred, nI_m1, add_nIc, add_cnI, bd_v, reduceCtorEq, eqFcc, m1e0, m1e1, m1l0, m1g0, m2l0, m2g0, Int32.reduceLT, Int32.reduceLE, Int32.reduceAdd, Int32.reduceSub, Int32.reduceMul, eq_self, Bool.false_eq_true]
        · rw [if_neg e]; simp (disch := omega) only [↓reduceIte, ic_t, ic_f, not_true_eq_false, not_false_eq_true, ↓lt_v, rdR, rdE, rdS, leT, leTc, leTd, leF, leFc, leFd, ltT, ltTc, ltTd, ltF, ltFc, ltFd, eqT, eqTc, eqTd, eqF, eqFc, eqFd, m1T, m1F, m1T', m1F', inb_nI, ix_nI, inb_c, ix_c, nI_1, nI_pred, nI_m1, add_nIc, add_cnI, bd_v, reduceCtorEq, eqFcc, m1e0, m1e1, m1l0, m1g0, m2l0, m2g0, Int32.reduceLT, Int32.reduceLE, Int32.reduceAdd, Int32.reduceSub, Int32.reduceMul, eq_self, Bool.false_eq_true]
  · refine st_no (x := 0) hS hc hr ?_ (fun M1 h1 => ?_)
    · show fX9_keep x M = _
      rw [e_X9_keep]
      by_cases y0 : x < 0
      · simp (disch := omega) only [↓reduceIte, ic_t, ic_f, not_true_eq_false, not_false_eq_true, ↓lt_v, rdR, rdE, rdS, leT, leTc, leTd, leF, leFc, leFd, ltT, ltTc, ltTd, ltF, ltFc, ltFd, eqT, eqTc, eqTd, eqF, eqFc, eqFd, m1T, m1F, m1T', m1F', inb_nI, ix_nI, inb_c, ix_c, nI_1, nI_pred, nI_m1, add_nIc, add_cnI, bd_v, reduceCtorEq, eqFcc, m1e0, m1e1, m1l0, m1g0, m2l0, m2g0, Int32.reduceLT, Int32.reduceLE, Int32.reduceAdd, Int32.reduceSub, Int32.reduceMul, eq_self, Bool.false_eq_true, eq_true y0]
      · rcases hx2 with q | q
        · exact absurd q y0
        · have : ¬ x < 3 := fun w => by
            rw [Int32.lt_iff_toInt_lt] at w q
            have e3 : (3 : Int32).toInt = 3 := by decide
            rw [nI_toInt (by omega)] at q
            omega
          simp (disch := omega) only [↓reduceIte, ic_t, ic_f, not_true_eq_false, not_false_eq_true, ↓lt_v, rdR, rdE, rdS, leT, leTc, leTd, leF, leFc, leFd, ltT, ltTc, ltTd, ltF, ltFc, ltFd, eqT, eqTc, eqTd, eqF, eqFc, eqFd, m1T, m1F, m1T', m1F', inb_nI, ix_nI, inb_c, ix_c, nI_1, nI_pred, nI_m1, add_nIc, add_cnI, bd_v, reduceCtorEq, eqFcc, m1e0, m1e1, m1l0, m1g0, m2l0, m2g0, Int32.reduceLT, Int32.reduceLE, Int32.reduceAdd, Int32.reduceSub, Int32.reduceMul, eq_self, Bool.false_eq_true, eq_false y0, eq_false this]
    · have hi : ∀ M : Mem, fX10_in x.toInt64 0 2 M = some (0, M) := fun M => in_no (lo := 0) (hi := 2) (by decide) (by decide) hx
      show fX10_keep x M1 = _
      rw [e_X10_keep]
      simp (disch := omega) only [↓reduceIte, ic_t, ic_f, not_true_eq_false, not_false_eq_true, ↓lt_v, rdR, rdE, rdS, leT, leTc, leTd, leF, leFc, leFd, ltT, ltTc, ltTd, ltF, ltFc, ltFd, eqT, eqTc, eqTd, eqF, eqFc, eqFd, m1T, m1F, m1T', m1F', inb_nI, ix_nI, inb_c, ix_c, nI_1, nI_pred, nI_m1, add_nIc, add_cnI, bd_v, reduceCtorEq, eqFcc, m1e0, m1e1, m1l0, m1g0, m2l0, m2g0, Int32.reduceLT, Int32.reduceLE, Int32.reduceAdd, Int32.reduceSub, Int32.reduceMul, eq_self, Bool.false_eq_true, hi]
