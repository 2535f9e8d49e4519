/-! PURE: race, over, lies -/
theorem c_over {M : Mem} {n R : Nat} {v : VV} {F : (Nat → Int32) → Int32} (hc : CR n v F R M) :
    Ok (fX9_over M) (QC (nI (gob v.2 (TT F n v).1 n)) (some [(bts (TT F n v).2.2.2.1 (TT F n v).2.1).toInt64, (bts (TT F n v).2.2.2.2 (TT F n v).2.1).toInt64]) M) := by
  obtain ⟨h1, h2, h3, h4, h5⟩ := hc
  rw [e_X9_over, h4]
  refine ok_call (c_runT h1 (by omega) h5 h2 h3) (fun M1 g => ?_)
  obtain ⟨⟨L, hL⟩, hf⟩ := g
  obtain ⟨b1, b2⟩ := c_bits (m_TT h1) hL
  simp (disch := omega) only [↓reduceIte, ic_t, ic_f, not_true_eq_false, not_false_eq_true, ↓lt_v, rdR, rdE, rdS, leT, leTc, leTd, leF, leFc, leFd, ltT, ltTc, ltTd, ltF, ltFc, ltFd, eqT, eqTc, eqTd, eqF, eqFc, eqFd, m1T, m1F, m1T', m1F', inb_nI, ix_nI, inb_c, ix_c, nI_1, nI_pred, nI_m1, add_nIc, add_cnI, bd_v, reduceCtorEq, eqFcc, m1e0, m1e1, m1l0, m1g0, m2l0, m2g0, Int32.reduceLT, Int32.reduceLE, Int32.reduceAdd, Int32.reduceSub, Int32.reduceMul, eq_self, Bool.false_eq_true, b1, b2]
  refine ok_call (c_tellB (kc_fr (fr_SCu hf h5))) (fun M2 k => ?_)
  have hL2 : RcC n L (TT F n v) M2 := by
    have e := k.2.2.1
    unfold RcC
    rw [e 108 (by omega), e 109 (by omega), e 110 (by omega), e 112 (by omega), e 113 (by omega), e 114 (by omega)]
    exact hL
  have := c_goingOnes (r := 6) (o := v.2) h1 hL2 (fun j hj => by rw [k.2.2.1 (6 + 4) (by omega), hf.1 (6 + 4) (by unfold PRu; omega)]; exact h2.2.2.2.2.1 j hj)
  simp (disch := omega) only [↓reduceIte, ic_t, ic_f, not_true_eq_false, not_false_eq_true, ↓lt_v, rdR, rdE, rdS, leT, leTc, leTd, leF, leFc, leFd, ltT, ltTc, ltTd, ltF, ltFc, ltFd, eqT, eqTc, eqTd, eqF, eqFc, eqFd, m1T, m1F, m1T', m1F', inb_nI, ix_nI, inb_c, ix_c, nI_1, nI_pred, nI_m1, add_nIc, add_cnI, bd_v, reduceCtorEq, eqFcc, m1e0, m1e1, m1l0, m1g0, m2l0, m2g0, Int32.reduceLT, Int32.reduceLE, Int32.reduceAdd, Int32.reduceSub, Int32.reduceMul, eq_self, Bool.false_eq_true, this]
  exact ok_some ⟨rfl, k.1, k.2.1⟩
theorem r_raceT {M : Mem} {n : Nat} {v : VV} {F : (Nat → Int32) → Int32} (hc : RR n v F M) : Ok (fX10_races 171 (v.1 19) M) (fun M' => (∃ L, RcR n v.2 L (TT F n v) M') ∧ FrR PRr ST M M') := by
  obtain ⟨h1, h2, h3, h4⟩ := hc
  obtain ⟨s, hs, s1, s2⟩ := h1.2.2.2.2
  have := r_races (F := F) (st := s) h1 ln171 (by omega) h2 h3 h4 s2
  unfold TT
  rw [hs, ix_nI (by omega)]
  exact ok_mono this (fun M' h => ⟨⟨_, h.1⟩, h.2⟩)
theorem r_over {M : Mem} {n : Nat} {v : VV} {F : (Nat → Int32) → Int32} (hc : RR n v F M) :
    Ok (fX10_over M) (QR (nI (gob v.2 (TT F n v).1 n)) (some [(bts (TT F n v).2.2.2.1 (TT F n v).2.1).toInt64, (bts (TT F n v).2.2.2.2 (TT F n v).2.1).toInt64]) M) := by
  obtain ⟨hc0, hf0⟩ := r_thrown0 hc
  have e19 := hc.2.2.1 19 (by omega)
  rw [e_X10_over]
  simp (disch := omega) only [↓reduceIte, ic_t, ic_f, not_true_eq_false, not_false_eq_true, ↓lt_v, rdR, rdE, rdS, leT, leTc, leTd, leF, leFc, leFd, ltT, ltTc, ltTd, ltF, ltFc, ltFd, eqT, eqTc, eqTd, eqF, eqFc, eqFd, m1T, m1F, m1T', m1F', inb_nI, ix_nI, inb_c, ix_c, nI_1, nI_pred, nI_m1, add_nIc, add_cnI, bd_v, reduceCtorEq, eqFcc, m1e0, m1e1, m1l0, m1g0, m2l0, m2g0, Int32.reduceLT, Int32.reduceLE, Int32.reduceAdd, Int32.reduceSub, Int32.reduceMul, eq_self, Bool.false_eq_true, e19]
  refine ok_call (r_raceT hc0) (fun M1 g => ?_)
  obtain ⟨⟨L, hL⟩, hf⟩ := g
  have hm : (TT F n v).2.1 ≤ 3 := m_TT hc.1
  have rc_same : ∀ M2 : Mem, (∀ a, a ≠ 169 → M2.1 a = M1.1 a) → (∀ i, i ≠ 1 → M2.1 169 i = M1.1 169 i) → RcR n v.2 L (TT F n v) M2 := by
    intro M2 e1 e2
    unfold RcR
    rw [e1 179 (by omega), e1 180 (by omega), e1 182 (by omega), e1 183 (by omega), e1 184 (by omega), e2 3 (by omega), e2 23 (by omega), e2 27 (by omega)]
    exact hL
  have hz := rc_same (sI M1 169 1 0) (fun a ha => row_n ha) (fun i hi => rdS hi)
  obtain ⟨b1, b2⟩ := r_bits hm hz
  simp (disch := omega) only [↓reduceIte, ic_t, ic_f, not_true_eq_false, not_false_eq_true, ↓lt_v, rdR, rdE, rdS, leT, leTc, leTd, leF, leFc, leFd, ltT, ltTc, ltTd, ltF, ltFc, ltFd, eqT, eqTc, eqTd, eqF, eqFc, eqFd, m1T, m1F, m1T', m1F', inb_nI, ix_nI, inb_c, ix_c, nI_1, nI_pred, nI_m1, add_nIc, add_cnI, bd_v, reduceCtorEq, eqFcc, m1e0, m1e1, m1l0, m1g0, m2l0, m2g0, Int32.reduceLT, Int32.reduceLE, Int32.reduceAdd, Int32.reduceSub, Int32.reduceMul, eq_self, Bool.false_eq_true, b1]
  refine r_tell1 (kr_1 (frR_trans hf0 (frR_SRu hf))) (fun M2 k1 k2 k3 k4 => ?_)
  obtain ⟨b3, b4⟩ := r_bits hm (rc_same M2 k3 k4)
  simp (disch := omega) only [↓reduceIte, ic_t, ic_f, not_true_eq_false, not_false_eq_true, ↓lt_v, rdR, rdE, rdS, leT, leTc, leTd, leF, leFc, leFd, ltT, ltTc, ltTd, ltF, ltFc, ltFd, eqT, eqTc, eqTd, eqF, eqFc, eqFd, m1T, m1F, m1T', m1F', inb_nI, ix_nI, inb_c, ix_c, nI_1, nI_pred, nI_m1, add_nIc, add_cnI, bd_v, reduceCtorEq, eqFcc, m1e0, m1e1, m1l0, m1g0, m2l0, m2g0, Int32.reduceLT, Int32.reduceLE, Int32.reduceAdd, Int32.reduceSub, Int32.reduceMul, eq_self, Bool.false_eq_true, b4]
  refine ok_call (r_enters (by simp) k1 k2) (fun M3 j => ok_some ⟨?_, j.1, j.2.1⟩)
  exact r_racing hc.1 (rc_same M3 (fun a ha => (j.2.2.1 a ha).trans (k3 a ha)) (fun i hi => (j.2.2.2 i hi).trans (k4 i hi)))
def rl (T : TS) : Nat → List Int64
  | 0 => []
  | i + 1 => rl T i ++ [(T.2.2.1 i).toInt64] ++ [(T.2.2.2.1 i).toInt64] ++ [(T.2.2.2.2 i).toInt64]
theorem rl_len (T : TS) : ∀ i, (rl T i).length = 3 * i
  | 0 => rfl
  | i + 1 => by unfold rl; simp [rl_len T i]; omega
theorem c_race {M : Mem} {n R : Nat} {v : VV} {F : (Nat → Int32) → Int32} (hc : CR n v F R M) :
    Ok (fX9_race M) (QC (nI (TT F n v).2.1) (some (rl (TT F n v) (TT F n v).2.1)) M) := by
  obtain ⟨h1, h2, h3, h4, h5⟩ := hc
  have hm : (TT F n v).2.1 ≤ 3 := m_TT h1
  rw [e_X9_race, h4]
  refine ok_call (c_runT h1 (by omega) h5 h2 h3) (fun M1 g => ?_)
  obtain ⟨⟨L, hL⟩, hf⟩ := g
  obtain ⟨k1, k2⟩ := c_zero (kc_fr (fr_SCu hf h5))
  simp (disch := omega) only [↓reduceIte, ic_t, ic_f, not_true_eq_false, not_false_eq_true, ↓lt_v, rdR, rdE, rdS, leT, leTc, leTd, leF, leFc, leFd, ltT, ltTc, ltTd, ltF, ltFc, ltFd, eqT, eqTc, eqTd, eqF, eqFc, eqFd, m1T, m1F, m1T', m1F', inb_nI, ix_nI, inb_c, ix_c, nI_1, nI_pred, nI_m1, add_nIc, add_cnI, bd_v, reduceCtorEq, eqFcc, m1e0, m1e1, m1l0, m1g0, m2l0, m2g0, Int32.reduceLT, Int32.reduceLE, Int32.reduceAdd, Int32.reduceSub, Int32.reduceMul, eq_self, Bool.false_eq_true]
  have hFU : 2000 < FU := FU_big
  generalize FU = fu0 at hFU ⊢
  refine ok_loop (TT F n v).2.1 (fun fu k s => fX9_race_25 fu (nI k) s) (fun k s => KC M s ∧ CRow (some (rl (TT F n v) k)) M s ∧ (∀ a, a ≠ 4 → s.1 a = M1.1 a)) ?_ ?_ fu0 0 _ (by omega) (by omega) ⟨k1, k2, fun a ha => row_n ha⟩
  · intro fu k s hk hs ih
    obtain ⟨b1, b2, b3⟩ := hs
    obtain ⟨c1, c2, c3, c4, c5, c6⟩ := hL
    obtain ⟨d1, d2, d3⟩ := c6 k hk
    have l := rl_len (TT F n v) k
    rw [e_X9_race_25, b3 108 (by omega), b3 112 (by omega)]
    simp (disch := omega) only [↓reduceIte, ic_t, ic_f, not_true_eq_false, not_false_eq_true, ↓lt_v, rdR, rdE, rdS, leT, leTc, leTd, leF, leFc, leFd, ltT, ltTc, ltTd, ltF, ltFc, ltFd, eqT, eqTc, eqTd, eqF, eqFc, eqFd, m1T, m1F, m1T', m1F', inb_nI, ix_nI, inb_c, ix_c, nI_1, nI_pred, nI_m1, add_nIc, add_cnI, bd_v, reduceCtorEq, eqFcc, m1e0, m1e1, m1l0, m1g0, m2l0, m2g0, Int32.reduceLT, Int32.reduceLE, Int32.reduceAdd, Int32.reduceSub, Int32.reduceMul, eq_self, Bool.false_eq_true, c5, d1]
    refine ok_call (c_add (by omega) b1 b2) (fun N1 j1 => ?_)
    rw [j1.2.2.1 113 (by omega), b3 113 (by omega), d2]
    refine ok_call (c_add (by simp; omega) j1.1 j1.2.1) (fun N2 j2 => ?_)
    rw [j2.2.2.1 114 (by omega), j1.2.2.1 114 (by omega), b3 114 (by omega), d3]
    refine ok_call (c_add (by simp; omega) j2.1 j2.2.1) (fun N3 j3 => ?_)
    exact ih _ ⟨j3.1, j3.2.1, fun a ha => by rw [j3.2.2.1 a ha, j2.2.2.1 a ha, j1.2.2.1 a ha, b3 a ha]⟩
  · intro fu s hs
    obtain ⟨b1, b2, b3⟩ := hs
    have c5 := hL.2.2.2.2.1
    rw [e_X9_race_25, b3 108 (by omega)]
    simp (disch := omega) only [↓reduceIte, ic_t, ic_f, not_true_eq_false, not_false_eq_true, ↓lt_v, rdR, rdE, rdS, leT, leTc, leTd, leF, leFc, leFd, ltT, ltTc, ltTd, ltF, ltFc, ltFd, eqT, eqTc, eqTd, eqF, eqFc, eqFd, m1T, m1F, m1T', m1F', inb_nI, ix_nI, inb_c, ix_c, nI_1, nI_pred, nI_m1, add_nIc, add_cnI, bd_v, reduceCtorEq, eqFcc, m1e0, m1e1, m1l0, m1g0, m2l0, m2g0, Int32.reduceLT, Int32.reduceLE, Int32.reduceAdd, Int32.reduceSub, Int32.reduceMul, eq_self, Bool.false_eq_true, c5]
    exact ok_some ⟨rfl, b1, b2⟩
theorem r_race {M : Mem} {n : Nat} {v : VV} {F : (Nat → Int32) → Int32} (hc : RR n v F M) :
    Ok (fX10_race M) (QR (nI (TT F n v).2.1) (some (rl (TT F n v) (TT F n v).2.1)) M) := by
  obtain ⟨hc0, hf0⟩ := r_thrown0 hc
  have hm : (TT F n v).2.1 ≤ 3 := m_TT hc.1
  have e19 := hc.2.2.1 19 (by omega)
  rw [e_X10_race]
  simp (disch := omega) only [↓reduceIte, ic_t, ic_f, not_true_eq_false, not_false_eq_true, ↓lt_v, rdR, rdE, rdS, leT, leTc, leTd, leF, leFc, leFd, ltT, ltTc, ltTd, ltF, ltFc, ltFd, eqT, eqTc, eqTd, eqF, eqFc, eqFd, m1T, m1F, m1T', m1F', inb_nI, ix_nI, inb_c, ix_c, nI_1, nI_pred, nI_m1, add_nIc, add_cnI, bd_v, reduceCtorEq, eqFcc, m1e0, m1e1, m1l0, m1g0, m2l0, m2g0, Int32.reduceLT, Int32.reduceLE, Int32.reduceAdd, Int32.reduceSub, Int32.reduceMul, eq_self, Bool.false_eq_true, e19]
  refine ok_call (r_raceT hc0) (fun M1 g => ?_)
  obtain ⟨⟨L, hL⟩, hf⟩ := g
  obtain ⟨k1, k2⟩ := r_zero (kr_1 (frR_trans hf0 (frR_SRu hf)))
  try simp (disch := omega) only [↓reduceIte, ic_t, ic_f, not_true_eq_false, not_false_eq_true, ↓lt_v, rdR, rdE, rdS, leT, leTc, leTd, leF, leFc, leFd, ltT, ltTc, ltTd, ltF, ltFc, ltFd, eqT, eqTc, eqTd, eqF, eqFc, eqFd, m1T, m1F, m1T', m1F', inb_nI, ix_nI, inb_c, ix_c, nI_1, nI_pred, nI_m1, add_nIc, add_cnI, bd_v, reduceCtorEq, eqFcc, m1e0, m1e1, m1l0, m1g0, m2l0, m2g0, Int32.reduceLT, Int32.reduceLE, Int32.reduceAdd, Int32.reduceSub, Int32.reduceMul, eq_self, Bool.false_eq_true]
  have hFU : 2000 < FU := FU_big
  generalize FU = fu0 at hFU ⊢
  refine ok_loop (TT F n v).2.1 (fun fu k s => fX10_race_27 fu (nI k) s) (fun k s => KR M s ∧ RRow (some (rl (TT F n v) k)) M s ∧ (∀ a, a ≠ 169 → s.1 a = M1.1 a) ∧ (∀ i, i ≠ 1 → s.1 169 i = M1.1 169 i)) ?_ ?_ fu0 0 _ (by omega) (by omega) ⟨k1, k2, fun a ha => row_n ha, fun i hi => rdS hi⟩
  · intro fu k s hk hs ih
    obtain ⟨b1, b2, b3, b4⟩ := hs
    obtain ⟨c1, c2, c3, c4, c5, c6⟩ := hL
    obtain ⟨d1, d2, d3⟩ := c6 k hk
    have l := rl_len (TT F n v) k
    rw [e_X10_race_27, b4 27 (by omega), b3 182 (by omega)]
    simp (disch := omega) only [↓reduceIte, ic_t, ic_f, not_true_eq_false, not_false_eq_true, ↓lt_v, rdR, rdE, rdS, leT, leTc, leTd, leF, leFc, leFd, ltT, ltTc, ltTd, ltF, ltFc, ltFd, eqT, eqTc, eqTd, eqF, eqFc, eqFd, m1T, m1F, m1T', m1F', inb_nI, ix_nI, inb_c, ix_c, nI_1, nI_pred, nI_m1, add_nIc, add_cnI, bd_v, reduceCtorEq, eqFcc, m1e0, m1e1, m1l0, m1g0, m2l0, m2g0, Int32.reduceLT, Int32.reduceLE, Int32.reduceAdd, Int32.reduceSub, Int32.reduceMul, eq_self, Bool.false_eq_true, c5, d1]
    refine ok_call (r_enters (by omega) b1 b2) (fun N1 j1 => ?_)
    rw [j1.2.2.1 183 (by omega), b3 183 (by omega), d2]
    refine ok_call (r_enters (by simp; omega) j1.1 j1.2.1) (fun N2 j2 => ?_)
    rw [j2.2.2.1 184 (by omega), j1.2.2.1 184 (by omega), b3 184 (by omega), d3]
    refine ok_call (r_enters (by simp; omega) j2.1 j2.2.1) (fun N3 j3 => ?_)
    exact ih _ ⟨j3.1, j3.2.1, fun a ha => by rw [j3.2.2.1 a ha, j2.2.2.1 a ha, j1.2.2.1 a ha, b3 a ha], fun i hi => by rw [j3.2.2.2 i hi, j2.2.2.2 i hi, j1.2.2.2 i hi, b4 i hi]⟩
  · intro fu s hs
    obtain ⟨b1, b2, b3, b4⟩ := hs
    have c5 := hL.2.2.2.2.1
    rw [e_X10_race_27, b4 27 (by omega)]
    simp (disch := omega) only [↓reduceIte, ic_t, ic_f, not_true_eq_false, not_false_eq_true, ↓lt_v, rdR, rdE, rdS, leT, leTc, leTd, leF, leFc, leFd, ltT, ltTc, ltTd, ltF, ltFc, ltFd, eqT, eqTc, eqTd, eqF, eqFc, eqFd, m1T, m1F, m1T', m1F', inb_nI, ix_nI, inb_c, ix_c, nI_1, nI_pred, nI_m1, add_nIc, add_cnI, bd_v, reduceCtorEq, eqFcc, m1e0, m1e1, m1l0, m1g0, m2l0, m2g0, Int32.reduceLT, Int32.reduceLE, Int32.reduceAdd, Int32.reduceSub, Int32.reduceMul, eq_self, Bool.false_eq_true, c5]
    exact ok_some ⟨rfl, b1, b2⟩
theorem c_lies {M : Mem} {n R b t : Nat} {v : VV} {F : (Nat → Int32) → Int32} (hc : CR n v F R M) (hb : b < n) (ht : t ≤ 40) {k : Nat} (hk : k < n) (hbk : v.2 k = b) :
    Ok (fX9_lies (nI b) (nI t) M) (QC (1000 + (rs F v.1 v.2 n t).1 k) (some [(bI ((rs F v.1 v.2 n t).2.1 k)).toInt64]) M) := by
  obtain ⟨h1, h2, h3, h4, h5⟩ := hc
  have hn : n ≤ 6 := h1.1
  have hh := has_in h2.1 hn hb
  rw [e_X9_lies]
  simp (disch := omega) only [↓reduceIte, ic_t, ic_f, not_true_eq_false, not_false_eq_true, ↓lt_v, rdR, rdE, rdS, leT, leTc, leTd, leF, leFc, leFd, ltT, ltTc, ltTd, ltF, ltFc, ltFd, eqT, eqTc, eqTd, eqF, eqFc, eqFd, m1T, m1F, m1T', m1F', inb_nI, ix_nI, inb_c, ix_c, nI_1, nI_pred, nI_m1, add_nIc, add_cnI, bd_v, reduceCtorEq, eqFcc, m1e0, m1e1, m1l0, m1g0, m2l0, m2g0, Int32.reduceLT, Int32.reduceLE, Int32.reduceAdd, Int32.reduceSub, Int32.reduceMul, eq_self, Bool.false_eq_true, hh, h4]
  refine ok_call (c_begin h1 (by omega) h5 h2 h3) (fun M1 g => ?_)
  obtain ⟨a1, a2, a3⟩ := g
  have hFU : 2000 < FU := FU_big
  generalize FU = fu0 at hFU ⊢
  refine ok_loop t (fun fu j s => fX9_lies_40 fu (nI b) (nI t) (nI j) s) (fun j s => RcC n (rs F v.1 v.2 n j).1 (rs F v.1 v.2 n j).2 s ∧ FtC R F v.1 v.2 n s ∧ Fr (PRu R) M s) ?_ ?_ fu0 0 _ (by omega) (by omega) ⟨a1, a2, a3⟩
  · intro fu j s hj hs ih
    obtain ⟨b1, b2, b3⟩ := hs
    have hv' : RivC 6 n v.1 v.2 s := rivC_fr h2 (fun a h1 h2 => b3.1 a (by unfold PRu; omega))
    have hu' : RuC R F s := ruC_fr h3 (b3.1 R (by unfold PRu; omega)) (b3.1 (R + 1) (by unfold PRu; omega))
    rw [e_X9_lies_40]
    simp (disch := omega) only [↓reduceIte, ic_t, ic_f, not_true_eq_false, not_false_eq_true, ↓lt_v, rdR, rdE, rdS, leT, leTc, leTd, leF, leFc, leFd, ltT, ltTc, ltTd, ltF, ltFc, ltFd, eqT, eqTc, eqTd, eqF, eqFc, eqFd, m1T, m1F, m1T', m1F', inb_nI, ix_nI, inb_c, ix_c, nI_1, nI_pred, nI_m1, add_nIc, add_cnI, bd_v, reduceCtorEq, eqFcc, m1e0, m1e1, m1l0, m1g0, m2l0, m2g0, Int32.reduceLT, Int32.reduceLE, Int32.reduceAdd, Int32.reduceSub, Int32.reduceMul, eq_self, Bool.false_eq_true, show s.2.2 1 17 = R by rw [b3.2]; exact h4]
    refine ok_call (c_pull h1 (by omega) (by omega) h5 b1 (ti_rs j) hv' hu' b2) (fun M2 g2 => ?_)
    exact ih _ ⟨g2.1, g2.2.1, fr_trans b3 g2.2.2⟩
  · intro fu s hs
    obtain ⟨b1, b2, b3⟩ := hs
    have hpl : s.1 9 b = nI k := by
      rw [b3.1 9 (by unfold PRu; omega), ← hbk]
      exact (h2.2.2.2.1 (v.2 k) (by rw [hbk]; exact hb)).trans (h1.2.1 k hk).2
    have hg := b1.2.2.1 k hk
    have hl := b1.2.1 k hk
    rw [e_X9_lies_40]
    simp (disch := omega) only [↓reduceIte, ic_t, ic_f, not_true_eq_false, not_false_eq_true, ↓lt_v, rdR, rdE, rdS, leT, leTc, leTd, leF, leFc, leFd, ltT, ltTc, ltTd, ltF, ltFc, ltFd, eqT, eqTc, eqTd, eqF, eqFc, eqFd, m1T, m1F, m1T', m1F', inb_nI, ix_nI, inb_c, ix_c, nI_1, nI_pred, nI_m1, add_nIc, add_cnI, bd_v, reduceCtorEq, eqFcc, m1e0, m1e1, m1l0, m1g0, m2l0, m2g0, Int32.reduceLT, Int32.reduceLE, Int32.reduceAdd, Int32.reduceSub, Int32.reduceMul, eq_self, Bool.false_eq_true, hpl, hg, bI_0, e_X9_lies_98]
    have fin : ∀ y : Int64, y = (bI ((rs F v.1 v.2 n t).2.1 k)).toInt64 → Ok ((fX5_tell y s).bind fun q20 => some (1000 + q20.1 109 k, q20)) (QC (1000 + (rs F v.1 v.2 n t).1 k) (some [(bI ((rs F v.1 v.2 n t).2.1 k)).toInt64]) M) := by
      intro y hy
      subst hy
      refine ok_call (c_tell (kc_fr (fr_SCu b3 h5))) (fun M2 q => ok_some ⟨?_, q.1, q.2.1⟩)
      show 1000 + M2.1 109 k = _
      rw [q.2.2.1 109 (by omega), hl]
    cases hgk : (rs F v.1 v.2 n t).2.1 k
    · rw [hgk] at fin
      simp (disch := omega) only [↓reduceIte, ic_t, ic_f, not_true_eq_false, not_false_eq_true, ↓lt_v, rdR, rdE, rdS, leT, leTc, leTd, leF, leFc, leFd, ltT, ltTc, ltTd, ltF, ltFc, ltFd, eqT, eqTc, eqTd, eqF, eqFc, eqFd, m1T, m1F, m1T', m1F', inb_nI, ix_nI, inb_c, ix_c, nI_1, nI_pred, nI_m1, add_nIc, add_cnI, bd_v, reduceCtorEq, eqFcc, m1e0, m1e1, m1l0, m1g0, m2l0, m2g0, Int32.reduceLT, Int32.reduceLE, Int32.reduceAdd, Int32.reduceSub, Int32.reduceMul, eq_self, Bool.false_eq_true]
      exact fin _ (by decide)
    · rw [hgk] at fin
      simp (disch := omega) only [↓reduceIte, ic_t, ic_f, not_true_eq_false, not_false_eq_true, ↓lt_v, rdR, rdE, rdS, leT, leTc, leTd, leF, leFc, leFd, ltT, ltTc, ltTd, ltF, ltFc, ltFd, eqT, eqTc, eqTd, eqF, eqFc, eqFd, m1T, m1F, m1T', m1F', inb_nI, ix_nI, inb_c, ix_c, nI_1, nI_pred, nI_m1, add_nIc, add_cnI, bd_v, reduceCtorEq, eqFcc, m1e0, m1e1, m1l0, m1g0, m2l0, m2g0, Int32.reduceLT, Int32.reduceLE, Int32.reduceAdd, Int32.reduceSub, Int32.reduceMul, eq_self, Bool.false_eq_true]
      exact fin _ (by decide)
theorem r_lies {M : Mem} {n b t : Nat} {v : VV} {F : (Nat → Int32) → Int32} (hc : RR n v F M) (hb : b < n) (ht : t ≤ 40) {k : Nat} (hk : k < n) (hbk : v.2 k = b) :
    Ok (fX10_lies (nI b) (nI t) M) (QR (1000 + (rs F v.1 v.2 n t).1 k) (some [(bI ((rs F v.1 v.2 n t).2.1 k)).toInt64]) M) := by
  have hn : n ≤ 6 := hc.1.1
  obtain ⟨hc0, hf0⟩ := r_thrown0 hc
  have hh := r_isBoat_in hc0.2.1 hn hb
  have hi : ∀ M : Mem, fX10_in (nI t).toInt64 0 40 M = some (1, M) := fun M => by rw [r_inI (lo := 0) (hi := 40) (by decide) (by decide), nI_toInt (by omega), if_pos (by omega)]
  rw [e_X10_lies]
  simp (disch := omega) only [↓reduceIte, ic_t, ic_f, not_true_eq_false, not_false_eq_true, ↓lt_v, rdR, rdE, rdS, leT, leTc, leTd, leF, leFc, leFd, ltT, ltTc, ltTd, ltF, ltFc, ltFd, eqT, eqTc, eqTd, eqF, eqFc, eqFd, m1T, m1F, m1T', m1F', inb_nI, ix_nI, inb_c, ix_c, nI_1, nI_pred, nI_m1, add_nIc, add_cnI, bd_v, reduceCtorEq, eqFcc, m1e0, m1e1, m1l0, m1g0, m2l0, m2g0, Int32.reduceLT, Int32.reduceLE, Int32.reduceAdd, Int32.reduceSub, Int32.reduceMul, eq_self, Bool.false_eq_true, hh, hi]
  refine ok_call (r_races (F := F) hc.1 ln171 (by omega) hc0.2.1 hc0.2.2.1 hc0.2.2.2 ht) (fun M1 g => ?_)
  obtain ⟨g1, g2⟩ := g
  obtain ⟨c1, c2, c3, ⟨x, hx, x1, x2, x3⟩, c5, c6⟩ := g1
  have e1 : x.testBit b = (rs F v.1 v.2 n t).2.1 k := by rw [← hbk]; exact x2 k hk
  have e2 : M1.1 180 b = (rs F v.1 v.2 n t).1 k := by rw [← hbk]; exact c3 k hk
  have hfl : ∀ (z : Bool) (N : Mem), fX10_flag (bI z) N = some (bI z, N) := fun z N => by
    rw [e_X10_flag]
    cases z <;> rfl
  simp (disch := omega) only [↓reduceIte, ic_t, ic_f, not_true_eq_false, not_false_eq_true, ↓lt_v, rdR, rdE, rdS, leT, leTc, leTd, leF, leFc, leFd, ltT, ltTc, ltTd, ltF, ltFc, ltFd, eqT, eqTc, eqTd, eqF, eqFc, eqFd, m1T, m1F, m1T', m1F', inb_nI, ix_nI, inb_c, ix_c, nI_1, nI_pred, nI_m1, add_nIc, add_cnI, bd_v, reduceCtorEq, eqFcc, m1e0, m1e1, m1l0, m1g0, m2l0, m2g0, Int32.reduceLT, Int32.reduceLE, Int32.reduceAdd, Int32.reduceSub, Int32.reduceMul, eq_self, Bool.false_eq_true, x1, r_has, e1, hfl]
  refine r_tell1 (kr_1 (frR_trans hf0 (frR_SRu g2))) (fun M2 k1 k2 k3 k4 => ok_some ⟨?_, k1, k2⟩)
  show 1000 + M2.1 180 b = _
  rw [k3 180 (by omega), e2]
