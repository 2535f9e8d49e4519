/-! PURE: one act, class and reference -/
def ActP (n : Nat) (v : VV) (aC aR : Mem → Option (Int32 × Mem)) : Prop := ∃ (x : Int32) (v' : VV), WfV n v' ∧ (∀ M1, RvC 6 n v M1 → Ok (aC M1) (fun q => q.1 = x ∧ RvC 6 n v' q.2 ∧ Fr (fun a => 6 ≤ a ∧ a ≤ 10) M1 q.2)) ∧ (∀ M1, M1.1 169 3 = nI n → (∀ i, i < 22 → M1.1 171 i = v.1 i) → Ok (aR M1) (fun q => q.1 = x ∧ (∀ i, i < 22 → q.2.1 171 i = v'.1 i) ∧ FrR (fun a => a = 171) (fun _ => False) M1 q.2))
theorem pr_gap {n : Nat} {v : VV} {x : Int32} (hw : WfV n v) : ActP n v (fun M => fX4_setGap 6 x M) (fun M => (fX10_in x.toInt64 1 30 M).bind fun q => fX10_becomes 18 x q.1 q.2) := by
  have hn : n ≤ 6 := hw.1
  rcases range_cases x 1 30 (by omega) (by omega) with ⟨g, g1, g2, rfl⟩ | ⟨hx, hx2⟩
  · have hi : ∀ M : Mem, fX10_in (nI g).toInt64 1 30 M = some (1, M) := fun M => by rw [r_inI (lo := 1) (hi := 30) (by decide) (by decide), nI_toInt (by omega), if_pos (by omega)]
    refine ⟨bcm v.1 18 (nI g), (up1 v.1 18 (nI g), v.2), wfV_gap hw g1 g2, fun M1 h1 => ?_, fun M1 h1 h2 => ?_⟩
    rotate_left
    · simp only [hi, bd_v]; exact r_becomes (i := 18) (by omega) h2
    · exact ok_mono (c_setGap hn h1 (by rw [show (1 : Int32) = nI 1 from rfl]; exact nI_nlt (by omega) (by omega)) (by rw [show (30 : Int32) = nI 30 from rfl]; exact nI_le (by omega) (by omega))) (fun q k => ⟨k.1, k.2.1, fr_sub k.2.2 (fun a ha => by omega)⟩)
  · have hi : ∀ M : Mem, fX10_in x.toInt64 1 30 M = some (0, M) := fun M => in_no (lo := 1) (hi := 30) (by decide) (by decide) hx
    refine ⟨-1, v, hw, fun M1 h1 => ?_, fun M1 h1 h2 => ?_⟩
    · show Ok (fX4_setGap 6 x M1) _
      rw [e_X4_setGap]
      by_cases y0 : x < 1
      · simp (disch := omega) only [↓reduceIte, ic_t, ic_f, not_true_eq_false, not_false_eq_true, ↓lt_v, rdR, rdE, rdS, leT, leTc, leTd, leF, leFc, leFd, ltT, ltTc, ltTd, ltF, ltFc, ltFd, eqT, eqTc, eqTd, eqF, eqFc, eqFd, m1T, m1F, m1T', m1F', inb_nI, ix_nI, inb_c, ix_c, nI_1, nI_pred, nI_m1, add_nIc, add_cnI, bd_v, reduceCtorEq, eqFcc, m1e0, m1e1, m1l0, m1g0, m2l0, m2g0, Int32.reduceLT, Int32.reduceLE, Int32.reduceAdd, Int32.reduceSub, Int32.reduceMul, eq_self, Bool.false_eq_true, eq_true y0]
        exact ok_some ⟨rfl, h1, fr_rfl⟩
      · rcases hx2 with q | q
        · exact absurd q y0
        · simp (disch := omega) only [↓reduceIte, ic_t, ic_f, not_true_eq_false, not_false_eq_true, ↓lt_v, rdR, rdE, rdS, leT, leTc, leTd, leF, leFc, leFd, ltT, ltTc, ltTd, ltF, ltFc, ltFd, eqT, eqTc, eqTd, eqF, eqFc, eqFd, m1T, m1F, m1T', m1F', inb_nI, ix_nI, inb_c, ix_c, nI_1, nI_pred, nI_m1, add_nIc, add_cnI, bd_v, reduceCtorEq, eqFcc, m1e0, m1e1, m1l0, m1g0, m2l0, m2g0, Int32.reduceLT, Int32.reduceLE, Int32.reduceAdd, Int32.reduceSub, Int32.reduceMul, eq_self, Bool.false_eq_true, eq_false y0, gt_nle (show (30 : Int32) < x from q)]
          exact ok_some ⟨rfl, h1, fr_rfl⟩
    · simp only [hi, bd_v, e_X10_becomes]
      simp only [ic_t]
      exact ok_some ⟨rfl, h2, frR_rfl⟩
theorem pr_str {n : Nat} {v : VV} {x : Int32} (hw : WfV n v) : ActP n v (fun M => fX4_setStrokes 6 x M) (fun M => (fX10_in x.toInt64 1 40 M).bind fun q => fX10_becomes 19 x q.1 q.2) := by
  have hn : n ≤ 6 := hw.1
  rcases range_cases x 1 40 (by omega) (by omega) with ⟨g, g1, g2, rfl⟩ | ⟨hx, hx2⟩
  · have hi : ∀ M : Mem, fX10_in (nI g).toInt64 1 40 M = some (1, M) := fun M => by rw [r_inI (lo := 1) (hi := 40) (by decide) (by decide), nI_toInt (by omega), if_pos (by omega)]
    refine ⟨bcm v.1 19 (nI g), (up1 v.1 19 (nI g), v.2), wfV_str hw g1 g2, fun M1 h1 => ?_, fun M1 h1 h2 => ?_⟩
    rotate_left
    · simp only [hi, bd_v]; exact r_becomes (i := 19) (by omega) h2
    · exact ok_mono (c_setStr hn h1 (by rw [show (1 : Int32) = nI 1 from rfl]; exact nI_nlt (by omega) (by omega)) (by rw [show (40 : Int32) = nI 40 from rfl]; exact nI_le (by omega) (by omega))) (fun q k => ⟨k.1, k.2.1, fr_sub k.2.2 (fun a ha => by omega)⟩)
  · have hi : ∀ M : Mem, fX10_in x.toInt64 1 40 M = some (0, M) := fun M => in_no (lo := 1) (hi := 40) (by decide) (by decide) hx
    refine ⟨-1, v, hw, fun M1 h1 => ?_, fun M1 h1 h2 => ?_⟩
    · show Ok (fX4_setStrokes 6 x M1) _
      rw [e_X4_setStrokes]
      by_cases y0 : x < 1
      · simp (disch := omega) only [↓reduceIte, ic_t, ic_f, not_true_eq_false, not_false_eq_true, ↓lt_v, rdR, rdE, rdS, leT, leTc, leTd, leF, leFc, leFd, ltT, ltTc, ltTd, ltF, ltFc, ltFd, eqT, eqTc, eqTd, eqF, eqFc, eqFd, m1T, m1F, m1T', m1F', inb_nI, ix_nI, inb_c, ix_c, nI_1, nI_pred, nI_m1, add_nIc, add_cnI, bd_v, reduceCtorEq, eqFcc, m1e0, m1e1, m1l0, m1g0, m2l0, m2g0, Int32.reduceLT, Int32.reduceLE, Int32.reduceAdd, Int32.reduceSub, Int32.reduceMul, eq_self, Bool.false_eq_true, eq_true y0]
        exact ok_some ⟨rfl, h1, fr_rfl⟩
      · rcases hx2 with q | q
        · exact absurd q y0
        · simp (disch := omega) only [↓reduceIte, ic_t, ic_f, not_true_eq_false, not_false_eq_true, ↓lt_v, rdR, rdE, rdS, leT, leTc, leTd, leF, leFc, leFd, ltT, ltTc, ltTd, ltF, ltFc, ltFd, eqT, eqTc, eqTd, eqF, eqFc, eqFd, m1T, m1F, m1T', m1F', inb_nI, ix_nI, inb_c, ix_c, nI_1, nI_pred, nI_m1, add_nIc, add_cnI, bd_v, reduceCtorEq, eqFcc, m1e0, m1e1, m1l0, m1g0, m2l0, m2g0, Int32.reduceLT, Int32.reduceLE, Int32.reduceAdd, Int32.reduceSub, Int32.reduceMul, eq_self, Bool.false_eq_true, eq_false y0, gt_nle (show (40 : Int32) < x from q)]
          exact ok_some ⟨rfl, h1, fr_rfl⟩
    · simp only [hi, bd_v, e_X10_becomes]
      simp only [ic_t]
      exact ok_some ⟨rfl, h2, frR_rfl⟩
theorem pr_foot {n : Nat} {v : VV} {x : Int32} (hw : WfV n v) : ActP n v (fun M => fX4_moveToFoot 6 x M) (fun M => fX10_scratchesOne 171 x M) := by
  have hn : n ≤ 6 := hw.1
  rcases in_cases x (n := n) (by omega) with ⟨b, hb, rfl⟩ | hx
  · obtain ⟨a, ha, rfl⟩ := hw.2.2.1 b hb
    refine ⟨scA n a, scV n a v, wf_sc hw ha, fun M1 h1 => ?_, fun M1 h1 h2 => ?_⟩
    rotate_left
    · exact r_foot hw ln171 (by omega) h1 h2 ha
    · exact ok_mono (c_foot hw h1 ha) (fun q k => ⟨k.1, k.2.1, fr_sub k.2.2 (fun a ha => by omega)⟩)
  · refine ⟨-1, v, hw, fun M1 h1 => ?_, fun M1 h1 h2 => ?_⟩
    · have hh := has_out h1.1 hx
      show Ok (fX4_moveToFoot 6 x M1) _
      rw [e_X4_moveToFoot]
      simp (disch := omega) only [↓reduceIte, ic_t, ic_f, not_true_eq_false, not_false_eq_true, ↓lt_v, rdR, rdE, rdS, leT, leTc, leTd, leF, leFc, leFd, ltT, ltTc, ltTd, ltF, ltFc, ltFd, eqT, eqTc, eqTd, eqF, eqFc, eqFd, m1T, m1F, m1T', m1F', inb_nI, ix_nI, inb_c, ix_c, nI_1, nI_pred, nI_m1, add_nIc, add_cnI, bd_v, reduceCtorEq, eqFcc, m1e0, m1e1, m1l0, m1g0, m2l0, m2g0, Int32.reduceLT, Int32.reduceLE, Int32.reduceAdd, Int32.reduceSub, Int32.reduceMul, eq_self, Bool.false_eq_true, hh]
      exact ok_some ⟨rfl, h1, fr_rfl⟩
    · have hh := r_isBoat_out h1 hn hx
      show Ok (fX10_scratchesOne 171 x M1) _
      rw [e_X10_scratchesOne]
      simp (disch := omega) only [↓reduceIte, ic_t, ic_f, not_true_eq_false, not_false_eq_true, ↓lt_v, rdR, rdE, rdS, leT, leTc, leTd, leF, leFc, leFd, ltT, ltTc, ltTd, ltF, ltFc, ltFd, eqT, eqTc, eqTd, eqF, eqFc, eqFd, m1T, m1F, m1T', m1F', inb_nI, ix_nI, inb_c, ix_c, nI_1, nI_pred, nI_m1, add_nIc, add_cnI, bd_v, reduceCtorEq, eqFcc, m1e0, m1e1, m1l0, m1g0, m2l0, m2g0, Int32.reduceLT, Int32.reduceLE, Int32.reduceAdd, Int32.reduceSub, Int32.reduceMul, eq_self, Bool.false_eq_true, hh]
      exact ok_some ⟨rfl, h2, frR_rfl⟩
theorem pr_rest {n : Nat} {v : VV} {x : Int32} (hw : WfV n v) : ActP n v (fun M => fX4_restBoat 6 x M) (fun M => fX10_restsOne x M) := by
  have hn : n ≤ 6 := hw.1
  rcases in_cases x (n := n) (by omega) with ⟨b, hb, rfl⟩ | hx
  · refine ⟨bcm v.1 (6 + b) 0, (up1 v.1 (6 + b) 0, v.2), wfV_lo hw (by omega), fun M1 h1 => ?_, fun M1 h1 h2 => ?_⟩
    · exact ok_mono (c_rest hn h1 hb) (fun q k => ⟨k.1, k.2.1, fr_sub k.2.2 (fun a ha => by omega)⟩)
    · have hh := r_isBoat_in h1 hn hb
      show Ok (fX10_restsOne (nI b) M1) _
      rw [e_X10_restsOne]
      simp (disch := omega) only [↓reduceIte, ic_t, ic_f, not_true_eq_false, not_false_eq_true, ↓lt_v, rdR, rdE, rdS, leT, leTc, leTd, leF, leFc, leFd, ltT, ltTc, ltTd, ltF, ltFc, ltFd, eqT, eqTc, eqTd, eqF, eqFc, eqFd, m1T, m1F, m1T', m1F', inb_nI, ix_nI, inb_c, ix_c, nI_1, nI_pred, nI_m1, add_nIc, add_cnI, bd_v, reduceCtorEq, eqFcc, m1e0, m1e1, m1l0, m1g0, m2l0, m2g0, Int32.reduceLT, Int32.reduceLE, Int32.reduceAdd, Int32.reduceSub, Int32.reduceMul, eq_self, Bool.false_eq_true, hh]
      exact ok_call (r_becomes (i := 6 + b) (by omega) h2) (fun q k => ok_some k)
  · refine ⟨-1, v, hw, fun M1 h1 => ?_, fun M1 h1 h2 => ?_⟩
    · have hh := has_out h1.1 hx
      show Ok (fX4_restBoat 6 x M1) _
      rw [e_X4_restBoat]
      simp (disch := omega) only [↓reduceIte, ic_t, ic_f, not_true_eq_false, not_false_eq_true, ↓lt_v, rdR, rdE, rdS, leT, leTc, leTd, leF, leFc, leFd, ltT, ltTc, ltTd, ltF, ltFc, ltFd, eqT, eqTc, eqTd, eqF, eqFc, eqFd, m1T, m1F, m1T', m1F', inb_nI, ix_nI, inb_c, ix_c, nI_1, nI_pred, nI_m1, add_nIc, add_cnI, bd_v, reduceCtorEq, eqFcc, m1e0, m1e1, m1l0, m1g0, m2l0, m2g0, Int32.reduceLT, Int32.reduceLE, Int32.reduceAdd, Int32.reduceSub, Int32.reduceMul, eq_self, Bool.false_eq_true, hh]
      exact ok_some ⟨rfl, h1, fr_rfl⟩
    · have hh := r_isBoat_out h1 hn hx
      show Ok (fX10_restsOne x M1) _
      rw [e_X10_restsOne]
      simp (disch := omega) only [↓reduceIte, ic_t, ic_f, not_true_eq_false, not_false_eq_true, ↓lt_v, rdR, rdE, rdS, leT, leTc, leTd, leF, leFc, leFd, ltT, ltTc, ltTd, ltF, ltFc, ltFd, eqT, eqTc, eqTd, eqF, eqFc, eqFd, m1T, m1F, m1T', m1F', inb_nI, ix_nI, inb_c, ix_c, nI_1, nI_pred, nI_m1, add_nIc, add_cnI, bd_v, reduceCtorEq, eqFcc, m1e0, m1e1, m1l0, m1g0, m2l0, m2g0, Int32.reduceLT, Int32.reduceLE, Int32.reduceAdd, Int32.reduceSub, Int32.reduceMul, eq_self, Bool.false_eq_true, hh]
      exact ok_some ⟨rfl, h2, frR_rfl⟩
theorem pr_pace {n : Nat} {v : VV} {x y : Int32} (hw : WfV n v) : ActP n v (fun M => fX4_setPace 6 x y M) (fun M => fX10_pacesOne x y M) := by
  have hn : n ≤ 6 := hw.1
  rcases in_cases x (n := n) (by omega) with ⟨b, hb, rfl⟩ | hx
  · rcases range_cases y 1 9 (by omega) (by omega) with ⟨g, g1, g2, rfl⟩ | ⟨hy, hy2⟩
    · have hi : ∀ M : Mem, fX10_in (nI g).toInt64 1 9 M = some (1, M) := fun M => by rw [r_inI (lo := 1) (hi := 9) (by decide) (by decide), nI_toInt (by omega), if_pos (by omega)]
      refine ⟨bcm v.1 b (nI g), (up1 v.1 b (nI g), v.2), wfV_lo hw (by omega), fun M1 h1 => ?_, fun M1 h1 h2 => ?_⟩
      · exact ok_mono (c_pace hn h1 hb (by rw [show (1 : Int32) = nI 1 from rfl]; exact nI_nlt (by omega) (by omega)) (by rw [show (9 : Int32) = nI 9 from rfl]; exact nI_le (by omega) (by omega))) (fun q k => ⟨k.1, k.2.1, fr_sub k.2.2 (fun a ha => by omega)⟩)
      · have hh := r_isBoat_in h1 hn hb
        show Ok (fX10_pacesOne (nI b) (nI g) M1) _
        rw [e_X10_pacesOne]
        simp (disch := omega) only [↓reduceIte, ic_t, ic_f, not_true_eq_false, not_false_eq_true, ↓lt_v, rdR, rdE, rdS, leT, leTc, leTd, leF, leFc, leFd, ltT, ltTc, ltTd, ltF, ltFc, ltFd, eqT, eqTc, eqTd, eqF, eqFc, eqFd, m1T, m1F, m1T', m1F', inb_nI, ix_nI, inb_c, ix_c, nI_1, nI_pred, nI_m1, add_nIc, add_cnI, bd_v, reduceCtorEq, eqFcc, m1e0, m1e1, m1l0, m1g0, m2l0, m2g0, Int32.reduceLT, Int32.reduceLE, Int32.reduceAdd, Int32.reduceSub, Int32.reduceMul, eq_self, Bool.false_eq_true, hh, hi]
        exact ok_call (r_becomes (i := b) (by omega) h2) (fun q k => ok_some k)
    · have hi : ∀ M : Mem, fX10_in y.toInt64 1 9 M = some (0, M) := fun M => in_no (lo := 1) (hi := 9) (by decide) (by decide) hy
      refine ⟨-1, v, hw, fun M1 h1 => ?_, fun M1 h1 h2 => ?_⟩
      · have hh := has_in h1.1 hn hb
        show Ok (fX4_setPace 6 (nI b) y M1) _
        rw [e_X4_setPace]
        by_cases y0 : y < 1
        · simp (disch := omega) only [↓reduceIte, ic_t, ic_f, not_true_eq_false, not_false_eq_true, ↓lt_v, rdR, rdE, rdS, leT, leTc, leTd, leF, leFc, leFd, ltT, ltTc, ltTd, ltF, ltFc, ltFd, eqT, eqTc, eqTd, eqF, eqFc, eqFd, m1T, m1F, m1T', m1F', inb_nI, ix_nI, inb_c, ix_c, nI_1, nI_pred, nI_m1, add_nIc, add_cnI, bd_v, reduceCtorEq, eqFcc, m1e0, m1e1, m1l0, m1g0, m2l0, m2g0, Int32.reduceLT, Int32.reduceLE, Int32.reduceAdd, Int32.reduceSub, Int32.reduceMul, eq_self, Bool.false_eq_true, hh, eq_true y0]
          exact ok_some ⟨rfl, h1, fr_rfl⟩
        · rcases hy2 with q | q
          · exact absurd q y0
          · simp (disch := omega) only [↓reduceIte, ic_t, ic_f, not_true_eq_false, not_false_eq_true, ↓lt_v, rdR, rdE, rdS, leT, leTc, leTd, leF, leFc, leFd, ltT, ltTc, ltTd, ltF, ltFc, ltFd, eqT, eqTc, eqTd, eqF, eqFc, eqFd, m1T, m1F, m1T', m1F', inb_nI, ix_nI, inb_c, ix_c, nI_1, nI_pred, nI_m1, add_nIc, add_cnI, bd_v, reduceCtorEq, eqFcc, m1e0, m1e1, m1l0, m1g0, m2l0, m2g0, Int32.reduceLT, Int32.reduceLE, Int32.reduceAdd, Int32.reduceSub, Int32.reduceMul, eq_self, Bool.false_eq_true, hh, eq_false y0, gt_nle (show (9 : Int32) < y from q)]
            exact ok_some ⟨rfl, h1, fr_rfl⟩
      · have hh := r_isBoat_in h1 hn hb
        show Ok (fX10_pacesOne (nI b) y M1) _
        rw [e_X10_pacesOne]
        simp (disch := omega) only [↓reduceIte, ic_t, ic_f, not_true_eq_false, not_false_eq_true, ↓lt_v, rdR, rdE, rdS, leT, leTc, leTd, leF, leFc, leFd, ltT, ltTc, ltTd, ltF, ltFc, ltFd, eqT, eqTc, eqTd, eqF, eqFc, eqFd, m1T, m1F, m1T', m1F', inb_nI, ix_nI, inb_c, ix_c, nI_1, nI_pred, nI_m1, add_nIc, add_cnI, bd_v, reduceCtorEq, eqFcc, m1e0, m1e1, m1l0, m1g0, m2l0, m2g0, Int32.reduceLT, Int32.reduceLE, Int32.reduceAdd, Int32.reduceSub, Int32.reduceMul, eq_self, Bool.false_eq_true, hh, hi, e_X10_becomes]
        exact ok_some ⟨rfl, h2, frR_rfl⟩
  · refine ⟨-1, v, hw, fun M1 h1 => ?_, fun M1 h1 h2 => ?_⟩
    · have hh := has_out h1.1 hx
      show Ok (fX4_setPace 6 x y M1) _
      rw [e_X4_setPace]
      simp (disch := omega) only [↓reduceIte, ic_t, ic_f, not_true_eq_false, not_false_eq_true, ↓lt_v, rdR, rdE, rdS, leT, leTc, leTd, leF, leFc, leFd, ltT, ltTc, ltTd, ltF, ltFc, ltFd, eqT, eqTc, eqTd, eqF, eqFc, eqFd, m1T, m1F, m1T', m1F', inb_nI, ix_nI, inb_c, ix_c, nI_1, nI_pred, nI_m1, add_nIc, add_cnI, bd_v, reduceCtorEq, eqFcc, m1e0, m1e1, m1l0, m1g0, m2l0, m2g0, Int32.reduceLT, Int32.reduceLE, Int32.reduceAdd, Int32.reduceSub, Int32.reduceMul, eq_self, Bool.false_eq_true, hh]
      exact ok_some ⟨rfl, h1, fr_rfl⟩
    · have hh := r_isBoat_out h1 hn hx
      show Ok (fX10_pacesOne x y M1) _
      rw [e_X10_pacesOne]
      simp (disch := omega) only [↓reduceIte, ic_t, ic_f, not_true_eq_false, not_false_eq_true, ↓lt_v, rdR, rdE, rdS, leT, leTc, leTd, leF, leFc, leFd, ltT, ltTc, ltTd, ltF, ltFc, ltFd, eqT, eqTc, eqTd, eqF, eqFc, eqFd, m1T, m1F, m1T', m1F', inb_nI, ix_nI, inb_c, ix_c, nI_1, nI_pred, nI_m1, add_nIc, add_cnI, bd_v, reduceCtorEq, eqFcc, m1e0, m1e1, m1l0, m1g0, m2l0, m2g0, Int32.reduceLT, Int32.reduceLE, Int32.reduceAdd, Int32.reduceSub, Int32.reduceMul, eq_self, Bool.false_eq_true, hh]
      exact ok_some ⟨rfl, h2, frR_rfl⟩
