/-! PURE: spurs, calm -/
theorem up1_up1 {α : Type} {f : Nat → α} {k : Nat} {x y : α} : up1 (up1 f k x) k y = up1 f k y := by
  funext j
  unfold up1
  split <;> rfl
theorem wfV_lo {n i : Nat} {v : VV} {x : Int32} (h : WfV n v) (hi : i < 12) : WfV n (up1 v.1 i x, v.2) := wf_lo h hi
theorem wfV_gap {n g : Nat} {v : VV} (h : WfV n v) (h1 : 1 ≤ g) (h2 : g ≤ 30) : WfV n (up1 v.1 18 (nI g), v.2) := by
  have e : ∀ j, j ≠ 18 → up1 v.1 18 (nI g) j = v.1 j := fun j hj => up1_n hj
  have hn : n ≤ 6 := h.1
  refine ⟨h.1, fun k hk => ⟨(h.2.1 k hk).1, ?_⟩, h.2.2.1, ⟨g, show up1 v.1 18 (nI g) 18 = nI g from up1_e rfl, h1, h2⟩, ?_⟩
  · have := (h.2.1 k hk).1
    rw [show ((up1 v.1 18 (nI g), v.2) : VV).1 (12 + ((up1 v.1 18 (nI g), v.2) : VV).2 k) = v.1 (12 + v.2 k) from e (12 + v.2 k) (by omega)]
    exact (h.2.1 k hk).2
  · rw [show ((up1 v.1 18 (nI g), v.2) : VV).1 19 = v.1 19 from e 19 (by omega)]; exact h.2.2.2.2
theorem tq_neg {n : Nat} {T : TS} {x : Int32} (hn : n ≤ 6) (hT : TB n T) : (tq T.2.2.2.1 T.2.2.2.2 T.2.1 x < 0) = (fq T.2.2.2.1 T.2.1 x = 0) := by
  have hl := fq_le T.2.2.2.1 T.2.1 x
  unfold tq
  by_cases h : fq T.2.2.2.1 T.2.1 x = 0
  · rw [if_pos h, h]; simp
  · rw [if_neg h]
    obtain ⟨_, y, hy, ey⟩ := hT (fq T.2.2.2.1 T.2.1 x - 1) (by omega)
    rw [ey]
    simp [h, nI_pos (show y < 2 ^ 31 by omega)]
def spT (F : (Nat → Int32) → Int32) (n : Nat) (v : VV) (b k : Nat) : TS := TT F n (up1 v.1 b (nI k), v.2)
def spG (F : (Nat → Int32) → Int32) (n : Nat) (v : VV) (b j : Nat) : Bool := decide (¬ fq (spT F n v b (j + 1)).2.2.2.1 (spT F n v b (j + 1)).2.1 (nI b) = 0)
def spq (F : (Nat → Int32) → Int32) (n : Nat) (v : VV) (b : Nat) : Nat := nx (spG F n v b) 9 9
def spA (F : (Nat → Int32) → Int32) (n : Nat) (v : VV) (b : Nat) : Int32 := if spq F n v b = 0 then -2 else nI (spq F n v b)
def spL (F : (Nat → Int32) → Int32) (n : Nat) (v : VV) (b : Nat) : Option (List Int64) := if spq F n v b = 0 then none else some [(tq (spT F n v b (spq F n v b)).2.2.2.1 (spT F n v b (spq F n v b)).2.2.2.2 (spT F n v b (spq F n v b)).2.1 (nI b)).toInt64, (tq (spT F n v b (spq F n v b)).2.2.2.1 (spT F n v b (spq F n v b)).2.2.1 (spT F n v b (spq F n v b)).2.1 (nI b)).toInt64]
theorem c_spurs {M : Mem} {n R b : Nat} {v : VV} {F : (Nat → Int32) → Int32} (hc : CR n v F R M) (hb : b < n) : Ok (fX9_spurs (nI b) M) (QC (spA F n v b) (spL F n v b) M) := by
  have hn : n ≤ 6 := hc.1.1
  have hh := has_in hc.2.1.1 hn hb
  have hR := hc.2.2.2.2
  rw [e_X9_spurs]
  simp (disch := omega) only [↓reduceIte, ic_t, ic_f, not_true_eq_false, not_false_eq_true, ↓lt_v, rdR, rdE, rdS, leT, leTc, leTd, leF, leFc, leFd, ltT, ltTc, ltTd, ltF, ltFc, ltFd, eqT, eqTc, eqTd, eqF, eqFc, eqFd, m1T, m1F, m1T', m1F', inb_nI, ix_nI, inb_c, ix_c, nI_1, nI_pred, nI_m1, add_nIc, add_cnI, bd_v, reduceCtorEq, eqFcc, m1e0, m1e1, m1l0, m1g0, m2l0, m2g0, Int32.reduceLT, Int32.reduceLE, Int32.reduceAdd, Int32.reduceSub, Int32.reduceMul, eq_self, Bool.false_eq_true, hh]
  refine c_trial hc (fun M1 g1 g2 g3 g4 => ?_)
  have hFU : 2000 < FU := FU_big
  generalize FU = fu0 at hFU ⊢
  refine ok_loop 10 (fun fu k (s : Mem) => fX9_spurs_26 fu (nI b) (nI k) s) (fun k s => 1 ≤ k ∧ (∀ j, j < k - 1 → spG F n v b j = false) ∧ ∃ x, TrC n (up1 v.1 b x, v.2) F R M s) ?_ ?_ fu0 1 M1 (by omega) (by omega) ⟨Nat.le_refl _, fun j hj => absurd hj (Nat.not_lt_zero _), v.1 b, by rw [up1_self rfl]; exact g1, g2.2.2.1, g3, g4⟩
  · intro fu k s hk hs ih
    obtain ⟨b0, b1, x, t1, t2, t3, t4⟩ := hs
    obtain ⟨e, rfl⟩ : ∃ e, k = e + 1 := ⟨k - 1, by omega⟩
    simp only [Nat.add_sub_cancel] at b1 ih
    have hr : RvC 16 n (up1 v.1 b (nI (e + 1)), v.2) (sI s 17 b (nI (e + 1))) := by
      have := c_slot (j := 0) (x := nI (e + 1)) t1 hn hb (Or.inl rfl)
      rw [show 6 * 0 + b = b by omega, up1_up1] at this
      exact this
    have hu : RuC R F (sI s 17 b (nI (e + 1))) := ruC_fr t2 (row_n (by omega)) (row_n (by omega))
    have hw1 : WfV n (up1 v.1 b (nI (e + 1)), v.2) := wfV_lo hc.1 (by omega)
    rw [e_X9_spurs_26]
    simp (disch := omega) only [↓reduceIte, ic_t, ic_f, not_true_eq_false, not_false_eq_true, ↓lt_v, rdR, rdE, rdS, leT, leTc, leTd, leF, leFc, leFd, ltT, ltTc, ltTd, ltF, ltFc, ltFd, eqT, eqTc, eqTd, eqF, eqFc, eqFd, m1T, m1F, m1T', m1F', inb_nI, ix_nI, inb_c, ix_c, nI_1, nI_pred, nI_m1, add_nIc, add_cnI, bd_v, reduceCtorEq, eqFcc, m1e0, m1e1, m1l0, m1g0, m2l0, m2g0, Int32.reduceLT, Int32.reduceLE, Int32.reduceAdd, Int32.reduceSub, Int32.reduceMul, eq_self, Bool.false_eq_true, show (sI s 17 b (nI (e + 1))).2.2 1 17 = R from t3]
    refine ok_call (c_runT hw1 (by omega) hR hr hu) (fun M2 g => ?_)
    obtain ⟨⟨L, hL⟩, hf⟩ := g
    have hm : (spT F n v b (e + 1)).2.1 ≤ 3 := m_TT hw1
    have hTB : TB n (spT F n v b (e + 1)) := tb_TT hw1
    have hL : RcC n L (spT F n v b (e + 1)) M2 := hL
    obtain ⟨q1, q2, q3⟩ := c_tq (x := nI b) hm hL
    have fr2 : Fr SC M M2 := fr_trans t4 (fr_trans (fr_sI (by unfold SC; omega)) (fr_SCu hf hR))
    simp (disch := omega) only [↓reduceIte, ic_t, ic_f, not_true_eq_false, not_false_eq_true, ↓lt_v, rdR, rdE, rdS, leT, leTc, leTd, leF, leFc, leFd, ltT, ltTc, ltTd, ltF, ltFc, ltFd, eqT, eqTc, eqTd, eqF, eqFc, eqFd, m1T, m1F, m1T', m1F', inb_nI, ix_nI, inb_c, ix_c, nI_1, nI_pred, nI_m1, add_nIc, add_cnI, bd_v, reduceCtorEq, eqFcc, m1e0, m1e1, m1l0, m1g0, m2l0, m2g0, Int32.reduceLT, Int32.reduceLE, Int32.reduceAdd, Int32.reduceSub, Int32.reduceMul, eq_self, Bool.false_eq_true, q1, tq_neg hn hTB]
    by_cases h0 : fq (spT F n v b (e + 1)).2.2.2.1 (spT F n v b (e + 1)).2.1 (nI b) = 0
    · rw [ic_pos h0]
      refine ih _ ⟨by omega, fun j hj => ?_, nI (e + 1), rivC_fr hr (fun a h1 h2 => hf.1 a (by unfold PRu; omega)), ruC_fr hu (hf.1 R (by unfold PRu; omega)) (hf.1 (R + 1) (by unfold PRu; omega)), by rw [hf.2]; exact t3, fr2⟩
      by_cases ej : j = e
      · subst ej; exact decide_eq_false (fun q => q h0)
      · exact b1 j (by omega)
    · rw [ic_neg h0]
      have esp : spq F n v b = e + 1 := nx1 (by omega) (decide_eq_true h0) b1
      simp (disch := omega) only [↓reduceIte, ic_t, ic_f, not_true_eq_false, not_false_eq_true, ↓lt_v, rdR, rdE, rdS, leT, leTc, leTd, leF, leFc, leFd, ltT, ltTc, ltTd, ltF, ltFc, ltFd, eqT, eqTc, eqTd, eqF, eqFc, eqFd, m1T, m1F, m1T', m1F', inb_nI, ix_nI, inb_c, ix_c, nI_1, nI_pred, nI_m1, add_nIc, add_cnI, bd_v, reduceCtorEq, eqFcc, m1e0, m1e1, m1l0, m1g0, m2l0, m2g0, Int32.reduceLT, Int32.reduceLE, Int32.reduceAdd, Int32.reduceSub, Int32.reduceMul, eq_self, Bool.false_eq_true, q3]
      unfold spA spL
      rw [esp]
      refine ok_call (c_tellB (kc_fr fr2)) (fun M3 k => ok_some ⟨?_, k.1, ?_⟩)
      · rw [if_neg (Nat.succ_ne_zero e)]
      · rw [if_neg (Nat.succ_ne_zero e)]; exact k.2.1
  · intro fu s hs
    obtain ⟨b0, b1, x, t1, t2, t3, t4⟩ := hs
    have esp : spq F n v b = 0 := nx0 b1
    rw [e_X9_spurs_26]
    simp (disch := omega) only [↓reduceIte, ic_t, ic_f, not_true_eq_false, not_false_eq_true, ↓lt_v, rdR, rdE, rdS, leT, leTc, leTd, leF, leFc, leFd, ltT, ltTc, ltTd, ltF, ltFc, ltFd, eqT, eqTc, eqTd, eqF, eqFc, eqFd, m1T, m1F, m1T', m1F', inb_nI, ix_nI, inb_c, ix_c, nI_1, nI_pred, nI_m1, add_nIc, add_cnI, bd_v, reduceCtorEq, eqFcc, m1e0, m1e1, m1l0, m1g0, m2l0, m2g0, Int32.reduceLT, Int32.reduceLE, Int32.reduceAdd, Int32.reduceSub, Int32.reduceMul, eq_self, Bool.false_eq_true]
    unfold spA spL
    rw [esp]
    exact ok_some (qc_none t4)
theorem r_spurs {M : Mem} {n b : Nat} {v : VV} {F : (Nat → Int32) → Int32} (hc : RR n v F M) (hb : b < n) : Ok (fX10_spurs (nI b) M) (QR (spA F n v b) (spL F n v b) M) := by
  have hn : n ≤ 6 := hc.1.1
  obtain ⟨hc0, hf0⟩ := r_thrown0 hc
  have hh := r_isBoat_in hc0.2.1 hn hb
  rw [e_X10_spurs]
  simp (disch := omega) only [↓reduceIte, ic_t, ic_f, not_true_eq_false, not_false_eq_true, ↓lt_v, rdR, rdE, rdS, leT, leTc, leTd, leF, leFc, leFd, ltT, ltTc, ltTd, ltF, ltFc, ltFd, eqT, eqTc, eqTd, eqF, eqFc, eqFd, m1T, m1F, m1T', m1F', inb_nI, ix_nI, inb_c, ix_c, nI_1, nI_pred, nI_m1, add_nIc, add_cnI, bd_v, reduceCtorEq, eqFcc, m1e0, m1e1, m1l0, m1g0, m2l0, m2g0, Int32.reduceLT, Int32.reduceLE, Int32.reduceAdd, Int32.reduceSub, Int32.reduceMul, eq_self, Bool.false_eq_true, hh]
  refine r_then hc0 (fun M1 g1 g2 g3 => ?_)
  have hFU : 2000 < FU := FU_big
  generalize FU = fu0 at hFU ⊢
  refine ok_loop 10 (fun fu k (s : Mem) => fX10_spurs_21 fu (nI b) (nI k) s) (fun k s => 1 ≤ k ∧ (∀ j, j < k - 1 → spG F n v b j = false) ∧ ∃ x, TrR n (up1 v.1 b x, v.2) F M s) ?_ ?_ fu0 1 M1 (by omega) (by omega) ⟨Nat.le_refl _, fun j hj => absurd hj (Nat.not_lt_zero _), v.1 b, by rw [up1_self rfl]; exact g1, g2.2.1, g2.2.2.2, frR_trans hf0 g3⟩
  · intro fu k s hk hs ih
    obtain ⟨b0, b1, x, t1, t2, t3, t4⟩ := hs
    obtain ⟨e, rfl⟩ : ∃ e, k = e + 1 := ⟨k - 1, by omega⟩
    simp only [Nat.add_sub_cancel] at b1 ih
    have hw1 : WfV n (up1 v.1 b (nI (e + 1)), v.2) := wfV_lo hc.1 (by omega)
    have hr : ∀ i, i < 22 → (sI s 172 b (nI (e + 1))).1 172 i = up1 v.1 b (nI (e + 1)) i := by
      intro i hi
      by_cases ei : i = b
      · simp (disch := omega) only [↓reduceIte, ic_t, ic_f, not_true_eq_false, not_false_eq_true, ↓lt_v, rdR, rdE, rdS, leT, leTc, leTd, leF, leFc, leFd, ltT, ltTc, ltTd, ltF, ltFc, ltFd, eqT, eqTc, eqTd, eqF, eqFc, eqFd, m1T, m1F, m1T', m1F', inb_nI, ix_nI, inb_c, ix_c, nI_1, nI_pred, nI_m1, add_nIc, add_cnI, bd_v, reduceCtorEq, eqFcc, m1e0, m1e1, m1l0, m1g0, m2l0, m2g0, Int32.reduceLT, Int32.reduceLE, Int32.reduceAdd, Int32.reduceSub, Int32.reduceMul, eq_self, Bool.false_eq_true, up1_e]
      · simp (disch := omega) only [↓reduceIte, ic_t, ic_f, not_true_eq_false, not_false_eq_true, ↓lt_v, rdR, rdE, rdS, leT, leTc, leTd, leF, leFc, leFd, ltT, ltTc, ltTd, ltF, ltFc, ltFd, eqT, eqTc, eqTd, eqF, eqFc, eqFd, m1T, m1F, m1T', m1F', inb_nI, ix_nI, inb_c, ix_c, nI_1, nI_pred, nI_m1, add_nIc, add_cnI, bd_v, reduceCtorEq, eqFcc, m1e0, m1e1, m1l0, m1g0, m2l0, m2g0, Int32.reduceLT, Int32.reduceLE, Int32.reduceAdd, Int32.reduceSub, Int32.reduceMul, eq_self, Bool.false_eq_true, up1_n]
        rw [t1 i hi]
        exact up1_n ei
    have h3 : (sI s 172 b (nI (e + 1))).1 169 3 = nI n := by simp (disch := omega) only [↓reduceIte, ic_t, ic_f, not_true_eq_false, not_false_eq_true, ↓lt_v, rdR, rdE, rdS, leT, leTc, leTd, leF, leFc, leFd, ltT, ltTc, ltTd, ltF, ltFc, ltFd, eqT, eqTc, eqTd, eqF, eqFc, eqFd, m1T, m1F, m1T', m1F', inb_nI, ix_nI, inb_c, ix_c, nI_1, nI_pred, nI_m1, add_nIc, add_cnI, bd_v, reduceCtorEq, eqFcc, m1e0, m1e1, m1l0, m1g0, m2l0, m2g0, Int32.reduceLT, Int32.reduceLE, Int32.reduceAdd, Int32.reduceSub, Int32.reduceMul, eq_self, Bool.false_eq_true, t2]
    have hu : RuR F (sI s 172 b (nI (e + 1))) := ruR_fr t3 (row_n (by omega)) (by simp (disch := omega) only [↓reduceIte, ic_t, ic_f, not_true_eq_false, not_false_eq_true, ↓lt_v, rdR, rdE, rdS, leT, leTc, leTd, leF, leFc, leFd, ltT, ltTc, ltTd, ltF, ltFc, ltFd, eqT, eqTc, eqTd, eqF, eqFc, eqFd, m1T, m1F, m1T', m1F', inb_nI, ix_nI, inb_c, ix_c, nI_1, nI_pred, nI_m1, add_nIc, add_cnI, bd_v, reduceCtorEq, eqFcc, m1e0, m1e1, m1l0, m1g0, m2l0, m2g0, Int32.reduceLT, Int32.reduceLE, Int32.reduceAdd, Int32.reduceSub, Int32.reduceMul, eq_self, Bool.false_eq_true])
    obtain ⟨st, hs, s1, s2⟩ := hw1.2.2.2.2
    have e19 : s.1 172 19 = nI st := (rdS (by omega)).symm.trans ((hr 19 (by omega)).trans hs)
    have eT : (rs F (up1 v.1 b (nI (e + 1))) v.2 n st).2 = spT F n v b (e + 1) := by
      show _ = (rs F (up1 v.1 b (nI (e + 1))) v.2 n (ix (up1 v.1 b (nI (e + 1)) 19))).2
      rw [show up1 v.1 b (nI (e + 1)) 19 = nI st from hs, ix_nI (by omega)]
    rw [e_X10_spurs_21]
    simp (disch := omega) only [↓reduceIte, ic_t, ic_f, not_true_eq_false, not_false_eq_true, ↓lt_v, rdR, rdE, rdS, leT, leTc, leTd, leF, leFc, leFd, ltT, ltTc, ltTd, ltF, ltFc, ltFd, eqT, eqTc, eqTd, eqF, eqFc, eqFd, m1T, m1F, m1T', m1F', inb_nI, ix_nI, inb_c, ix_c, nI_1, nI_pred, nI_m1, add_nIc, add_cnI, bd_v, reduceCtorEq, eqFcc, m1e0, m1e1, m1l0, m1g0, m2l0, m2g0, Int32.reduceLT, Int32.reduceLE, Int32.reduceAdd, Int32.reduceSub, Int32.reduceMul, eq_self, Bool.false_eq_true, e19]
    refine ok_call (r_races (F := F) (w := up1 v.1 b (nI (e + 1))) (o := v.2) (n := n) (a := 172) (st := st) hw1 ln172 (by omega) h3 hr hu s2) (fun M2 g => ?_)
    obtain ⟨hL, hf⟩ := g
    rw [eT] at hL
    have hm : (spT F n v b (e + 1)).2.1 ≤ 3 := m_TT hw1
    have hto := r_touchOf (x := nI b) hm hL
    have hfl := fq_le (spT F n v b (e + 1)).2.2.2.1 (spT F n v b (e + 1)).2.1 (nI b)
    have fr2 : FrR SR SS1 M M2 := frR_trans t4 (frR_trans (frR_sI (by unfold SR; omega) (by omega)) (frR_SRu hf))
    simp (disch := omega) only [↓reduceIte, ic_t, ic_f, not_true_eq_false, not_false_eq_true, ↓lt_v, rdR, rdE, rdS, leT, leTc, leTd, leF, leFc, leFd, ltT, ltTc, ltTd, ltF, ltFc, ltFd, eqT, eqTc, eqTd, eqF, eqFc, eqFd, m1T, m1F, m1T', m1F', inb_nI, ix_nI, inb_c, ix_c, nI_1, nI_pred, nI_m1, add_nIc, add_cnI, bd_v, reduceCtorEq, eqFcc, m1e0, m1e1, m1l0, m1g0, m2l0, m2g0, Int32.reduceLT, Int32.reduceLE, Int32.reduceAdd, Int32.reduceSub, Int32.reduceMul, eq_self, Bool.false_eq_true, hto]
    by_cases h0 : fq (spT F n v b (e + 1)).2.2.2.1 (spT F n v b (e + 1)).2.1 (nI b) = 0
    · simp (disch := omega) only [↓reduceIte, ic_t, ic_f, not_true_eq_false, not_false_eq_true, ↓lt_v, rdR, rdE, rdS, leT, leTc, leTd, leF, leFc, leFd, ltT, ltTc, ltTd, ltF, ltFc, ltFd, eqT, eqTc, eqTd, eqF, eqFc, eqFd, m1T, m1F, m1T', m1F', inb_nI, ix_nI, inb_c, ix_c, nI_1, nI_pred, nI_m1, add_nIc, add_cnI, bd_v, reduceCtorEq, eqFcc, m1e0, m1e1, m1l0, m1g0, m2l0, m2g0, Int32.reduceLT, Int32.reduceLE, Int32.reduceAdd, Int32.reduceSub, Int32.reduceMul, eq_self, Bool.false_eq_true, h0]
      refine ih _ ⟨by omega, fun j hj => ?_, nI (e + 1), fun i hi => by rw [hf.1 172 (by omega) (by unfold PRr; omega)]; exact hr i hi, by rw [hf.2.1 3 (by unfold ST; omega)]; exact h3, ruR_fr hu (hf.1 175 (by omega) (by unfold PRr; omega)) (hf.2.1 16 (by unfold ST; omega)), fr2⟩
      by_cases ej : j = e
      · subst ej; exact decide_eq_false (fun q => q h0)
      · exact b1 j (by omega)
    · obtain ⟨i, hi⟩ : ∃ i, fq (spT F n v b (e + 1)).2.2.2.1 (spT F n v b (e + 1)).2.1 (nI b) = i + 1 := ⟨_ - 1, (Nat.sub_add_cancel (by omega)).symm⟩
      have esp : spq F n v b = e + 1 := nx1 (by omega) (decide_eq_true h0) b1
      obtain ⟨d1, d2, d3⟩ := hL.2.2.2.2.2 i (by omega)
      simp (disch := omega) only [↓reduceIte, ic_t, ic_f, not_true_eq_false, not_false_eq_true, ↓lt_v, rdR, rdE, rdS, leT, leTc, leTd, leF, leFc, leFd, ltT, ltTc, ltTd, ltF, ltFc, ltFd, eqT, eqTc, eqTd, eqF, eqFc, eqFd, m1T, m1F, m1T', m1F', inb_nI, ix_nI, inb_c, ix_c, nI_1, nI_pred, nI_m1, add_nIc, add_cnI, bd_v, reduceCtorEq, eqFcc, m1e0, m1e1, m1l0, m1g0, m2l0, m2g0, Int32.reduceLT, Int32.reduceLE, Int32.reduceAdd, Int32.reduceSub, Int32.reduceMul, eq_self, Bool.false_eq_true, hi, d3]
      refine r_tell1 (kr_1 fr2) (fun M3 k1 k2 k3 k4 => ?_)
      rw [k3 182 (by omega), d1]
      refine ok_call (r_enters (by simp) k1 k2) (fun M4 j => ok_some ⟨?_, j.1, ?_⟩)
      · unfold spA
        rw [esp, if_neg (Nat.succ_ne_zero e)]
      · have := j.2.1
        unfold spL tq
        rw [esp, if_neg (Nat.succ_ne_zero e), hi, if_neg (Nat.succ_ne_zero i), if_neg (Nat.succ_ne_zero i), Nat.add_sub_cancel]
        exact this
  · intro fu s hs
    obtain ⟨b0, b1, x, t1, t2, t3, t4⟩ := hs
    have esp : spq F n v b = 0 := nx0 b1
    rw [e_X10_spurs_21]
    simp (disch := omega) only [↓reduceIte, ic_t, ic_f, not_true_eq_false, not_false_eq_true, ↓lt_v, rdR, rdE, rdS, leT, leTc, leTd, leF, leFc, leFd, ltT, ltTc, ltTd, ltF, ltFc, ltFd, eqT, eqTc, eqTd, eqF, eqFc, eqFd, m1T, m1F, m1T', m1F', inb_nI, ix_nI, inb_c, ix_c, nI_1, nI_pred, nI_m1, add_nIc, add_cnI, bd_v, reduceCtorEq, eqFcc, m1e0, m1e1, m1l0, m1g0, m2l0, m2g0, Int32.reduceLT, Int32.reduceLE, Int32.reduceAdd, Int32.reduceSub, Int32.reduceMul, eq_self, Bool.false_eq_true]
    unfold spA spL
    rw [esp]
    exact ok_some (qr_none t4)
def clT (F : (Nat → Int32) → Int32) (n : Nat) (v : VV) (g : Nat) : TS := TT F n (up1 v.1 18 (nI g), v.2)
def clG (F : (Nat → Int32) → Int32) (n : Nat) (v : VV) (j : Nat) : Bool := decide ((clT F n v (j + 1)).2.1 = 0)
theorem cnt_le (G : Nat → Bool) : ∀ k, cnt G k ≤ k
  | 0 => Nat.le_refl _
  | k + 1 => by
    have := cnt_le G k
    unfold cnt
    split <;> omega
theorem cnt_0 {G : Nat → Bool} : ∀ k, cnt G k = 0 → ∀ j, j < k → G j = false
  | 0, _, j, hj => absurd hj (Nat.not_lt_zero _)
  | k + 1, h, j, hj => by
    unfold cnt at h
    by_cases e : j = k
    · subst e
      cases hg : G j
      · rfl
      · rw [hg] at h; simp at h
    · exact cnt_0 k (by omega) j (by omega)
theorem cnt_pos {G : Nat → Bool} : ∀ {k j}, j < k → G j = true → cnt G k ≠ 0 := by
  intro k j hj hg h
  rw [cnt_0 k h j hj] at hg
  cases hg
def clA (F : (Nat → Int32) → Int32) (n : Nat) (v : VV) : Int32 := if nx (clG F n v) 30 30 = 0 then -2 else nI (nx (clG F n v) 30 30)
def clL (F : (Nat → Int32) → Int32) (n : Nat) (v : VV) : Option (List Int64) := if cnt (clG F n v) 30 = 0 then none else some [(nI (cnt (clG F n v) 30)).toInt64]
theorem c_calm {M : Mem} {n R : Nat} {v : VV} {F : (Nat → Int32) → Int32} (hc : CR n v F R M) : Ok (fX9_calm M) (QC (clA F n v) (clL F n v) M) := by
  have hn : n ≤ 6 := hc.1.1
  have hR := hc.2.2.2.2
  rw [e_X9_calm]
  refine c_trial hc (fun M1 g1 g2 g3 g4 => ?_)
  have hFU : 2000 < FU := FU_big
  generalize FU = fu0 at hFU ⊢
  refine ok_loop 31 (fun fu k (s : (Int32 × Int32) × Mem) => fX9_calm_18 fu s.1.1 s.1.2 (nI k) s.2) (fun k s => 1 ≤ k ∧ s.1.2 = nI (cnt (clG F n v) (k - 1)) ∧ s.1.1 = (if cnt (clG F n v) (k - 1) = 0 then -2 else nI (nx (clG F n v) 30 30)) ∧ ∃ x, TrC n (up1 v.1 18 x, v.2) F R M s.2) ?_ ?_ fu0 1 ((-2, 0), M1) (by omega) (by omega) ⟨Nat.le_refl _, rfl, rfl, v.1 18, by rw [up1_self rfl]; exact g1, g2.2.2.1, g3, g4⟩
  · intro fu k s hk hs ih
    obtain ⟨b0, b1, b2, x, t1, t2, t3, t4⟩ := hs
    obtain ⟨e, rfl⟩ : ∃ e, k = e + 1 := ⟨k - 1, by omega⟩
    simp only [Nat.add_sub_cancel] at b1 b2 ih
    have hcl := cnt_le (clG F n v) e
    have hr : RvC 16 n (up1 v.1 18 (nI (e + 1)), v.2) (sI s.2 16 5 (nI (e + 1))) := by
      have := c_gap (x := nI (e + 1)) t1 hn
      rw [up1_up1] at this
      exact this
    have hu : RuC R F (sI s.2 16 5 (nI (e + 1))) := ruC_fr t2 (row_n (by omega)) (row_n (by omega))
    have hw1 : WfV n (up1 v.1 18 (nI (e + 1)), v.2) := wfV_gap hc.1 (by omega) (by omega)
    rw [e_X9_calm_18]
    simp (disch := omega) only [↓reduceIte, ic_t, ic_f, not_true_eq_false, not_false_eq_true, ↓lt_v, rdR, rdE, rdS, leT, leTc, leTd, leF, leFc, leFd, ltT, ltTc, ltTd, ltF, ltFc, ltFd, eqT, eqTc, eqTd, eqF, eqFc, eqFd, m1T, m1F, m1T', m1F', inb_nI, ix_nI, inb_c, ix_c, nI_1, nI_pred, nI_m1, add_nIc, add_cnI, bd_v, reduceCtorEq, eqFcc, m1e0, m1e1, m1l0, m1g0, m2l0, m2g0, Int32.reduceLT, Int32.reduceLE, Int32.reduceAdd, Int32.reduceSub, Int32.reduceMul, eq_self, Bool.false_eq_true, show (sI s.2 16 5 (nI (e + 1))).2.2 1 17 = R from t3]
    refine ok_call (c_runT hw1 (by omega) hR hr hu) (fun M2 g => ?_)
    obtain ⟨⟨L, hL⟩, hf⟩ := g
    have hm : (clT F n v (e + 1)).2.1 ≤ 3 := m_TT hw1
    have hL : RcC n L (clT F n v (e + 1)) M2 := hL
    have c5 := hL.2.2.2.2.1
    have fr2 : Fr SC M M2 := fr_trans t4 (fr_trans (fr_sI (by unfold SC; omega)) (fr_SCu hf hR))
    have tr2 : ∃ x, TrC n (up1 v.1 18 x, v.2) F R M M2 := ⟨nI (e + 1), rivC_fr hr (fun a h1 h2 => hf.1 a (by unfold PRu; omega)), ruC_fr hu (hf.1 R (by unfold PRu; omega)) (hf.1 (R + 1) (by unfold PRu; omega)), by rw [hf.2]; exact t3, fr2⟩
    have hcs : cnt (clG F n v) (e + 1) = cnt (clG F n v) e + (if clG F n v e = true then 1 else 0) := rfl
    by_cases h0 : (clT F n v (e + 1)).2.1 = 0
    · have hg : clG F n v e = true := decide_eq_true h0
      rw [hg, if_pos rfl] at hcs
      by_cases h1 : cnt (clG F n v) e = 0
      · simp (disch := omega) only [↓reduceIte, ic_t, ic_f, not_true_eq_false, not_false_eq_true, ↓lt_v, rdR, rdE, rdS, leT, leTc, leTd, leF, leFc, leFd, ltT, ltTc, ltTd, ltF, ltFc, ltFd, eqT, eqTc, eqTd, eqF, eqFc, eqFd, m1T, m1F, m1T', m1F', inb_nI, ix_nI, inb_c, ix_c, nI_1, nI_pred, nI_m1, add_nIc, add_cnI, bd_v, reduceCtorEq, eqFcc, m1e0, m1e1, m1l0, m1g0, m2l0, m2g0, Int32.reduceLT, Int32.reduceLE, Int32.reduceAdd, Int32.reduceSub, Int32.reduceMul, eq_self, Bool.false_eq_true, c5, h0, b1, h1]
        refine ih ((nI (e + 1), nI 1), M2) ⟨by omega, ?_, ?_, tr2⟩
        · rw [hcs, h1]
        · rw [hcs, if_neg (by omega), nx1 (by omega) hg (cnt_0 e h1)]
      · simp (disch := omega) only [↓reduceIte, ic_t, ic_f, not_true_eq_false, not_false_eq_true, ↓lt_v, rdR, rdE, rdS, leT, leTc, leTd, leF, leFc, leFd, ltT, ltTc, ltTd, ltF, ltFc, ltFd, eqT, eqTc, eqTd, eqF, eqFc, eqFd, m1T, m1F, m1T', m1F', inb_nI, ix_nI, inb_c, ix_c, nI_1, nI_pred, nI_m1, add_nIc, add_cnI, bd_v, reduceCtorEq, eqFcc, m1e0, m1e1, m1l0, m1g0, m2l0, m2g0, Int32.reduceLT, Int32.reduceLE, Int32.reduceAdd, Int32.reduceSub, Int32.reduceMul, eq_self, Bool.false_eq_true, c5, h0, b1]
        refine ih ((s.1.1, nI (cnt (clG F n v) e + 1)), M2) ⟨by omega, ?_, ?_, tr2⟩
        · rw [hcs]
        · rw [hcs, if_neg (by omega), b2, if_neg h1]
    · have hg : clG F n v e = false := decide_eq_false h0
      rw [hg] at hcs
      simp only [Bool.false_eq_true, if_false, Nat.add_zero] at hcs
      simp (disch := omega) only [↓reduceIte, ic_t, ic_f, not_true_eq_false, not_false_eq_true, ↓lt_v, rdR, rdE, rdS, leT, leTc, leTd, leF, leFc, leFd, ltT, ltTc, ltTd, ltF, ltFc, ltFd, eqT, eqTc, eqTd, eqF, eqFc, eqFd, m1T, m1F, m1T', m1F', inb_nI, ix_nI, inb_c, ix_c, nI_1, nI_pred, nI_m1, add_nIc, add_cnI, bd_v, reduceCtorEq, eqFcc, m1e0, m1e1, m1l0, m1g0, m2l0, m2g0, Int32.reduceLT, Int32.reduceLE, Int32.reduceAdd, Int32.reduceSub, Int32.reduceMul, eq_self, Bool.false_eq_true, c5]
      exact ih ((s.1.1, s.1.2), M2) ⟨by omega, by rw [hcs]; exact b1, by rw [hcs]; exact b2, tr2⟩
  · intro fu s hs
    obtain ⟨b0, b1, b2, x, t1, t2, t3, t4⟩ := hs
    have b1 : s.1.2 = nI (cnt (clG F n v) 30) := b1
    have b2 : s.1.1 = (if cnt (clG F n v) 30 = 0 then -2 else nI (nx (clG F n v) 30 30)) := b2
    have hcl := cnt_le (clG F n v) 30
    rw [e_X9_calm_18]
    unfold clA clL
    by_cases h1 : cnt (clG F n v) 30 = 0
    · simp (disch := omega) only [↓reduceIte, ic_t, ic_f, not_true_eq_false, not_false_eq_true, ↓lt_v, rdR, rdE, rdS, leT, leTc, leTd, leF, leFc, leFd, ltT, ltTc, ltTd, ltF, ltFc, ltFd, eqT, eqTc, eqTd, eqF, eqFc, eqFd, m1T, m1F, m1T', m1F', inb_nI, ix_nI, inb_c, ix_c, nI_1, nI_pred, nI_m1, add_nIc, add_cnI, bd_v, reduceCtorEq, eqFcc, m1e0, m1e1, m1l0, m1g0, m2l0, m2g0, Int32.reduceLT, Int32.reduceLE, Int32.reduceAdd, Int32.reduceSub, Int32.reduceMul, eq_self, Bool.false_eq_true, b1, h1]
      rw [h1] at b2
      rw [nx0 (cnt_0 30 h1), b2]
      exact ok_some (qc_none t4)
    · simp (disch := omega) only [↓reduceIte, ic_t, ic_f, not_true_eq_false, not_false_eq_true, ↓lt_v, rdR, rdE, rdS, leT, leTc, leTd, leF, leFc, leFd, ltT, ltTc, ltTd, ltF, ltFc, ltFd, eqT, eqTc, eqTd, eqF, eqFc, eqFd, m1T, m1F, m1T', m1F', inb_nI, ix_nI, inb_c, ix_c, nI_1, nI_pred, nI_m1, add_nIc, add_cnI, bd_v, reduceCtorEq, eqFcc, m1e0, m1e1, m1l0, m1g0, m2l0, m2g0, Int32.reduceLT, Int32.reduceLE, Int32.reduceAdd, Int32.reduceSub, Int32.reduceMul, eq_self, Bool.false_eq_true, b1]
      rw [if_neg h1]
      refine ok_call (c_tell (kc_fr t4)) (fun M2 q => ok_some ⟨?_, q.1, q.2.1⟩)
      show s.1.1 = _
      rw [b2, if_neg h1, if_neg]
      intro hz
      refine h1 ?_
      refine Nat.eq_zero_of_not_pos (fun hp => ?_)
      have : ∀ k, k ≤ 30 → cnt (clG F n v) k ≠ 0 → ∃ j, j < k ∧ clG F n v j = true ∧ ∀ i, i < j → clG F n v i = false := by
        intro k
        induction k with
        | zero => intro _ h; exact absurd rfl h
        | succ k ih =>
          intro hk h
          by_cases hc : cnt (clG F n v) k = 0
          · refine ⟨k, by omega, ?_, cnt_0 k hc⟩
            cases hg : clG F n v k
            · exfalso; apply h; unfold cnt; rw [hc, hg]; rfl
            · rfl
          · obtain ⟨j, h1, h2, h3⟩ := ih (by omega) hc
            exact ⟨j, by omega, h2, h3⟩
      obtain ⟨j, j1, j2, j3⟩ := this 30 (Nat.le_refl _) h1
      rw [nx1 j1 j2 j3] at hz
      omega
theorem r_calm {M : Mem} {n : Nat} {v : VV} {F : (Nat → Int32) → Int32} (hc : RR n v F M) : Ok (fX10_calm M) (QR (clA F n v) (clL F n v) M) := by
  have hn : n ≤ 6 := hc.1.1
  obtain ⟨hc0, hf0⟩ := r_thrown0 hc
  have f0 : ∀ N : Mem, fX10_flag 0 N = some (0, N) := fun N => r_flagI (Or.inl rfl)
  have f1 : ∀ N : Mem, fX10_flag 1 N = some (1, N) := fun N => r_flagI (Or.inr rfl)
  rw [e_X10_calm]
  simp (disch := omega) only [↓reduceIte, ic_t, ic_f, not_true_eq_false, not_false_eq_true, ↓lt_v, rdR, rdE, rdS, leT, leTc, leTd, leF, leFc, leFd, ltT, ltTc, ltTd, ltF, ltFc, ltFd, eqT, eqTc, eqTd, eqF, eqFc, eqFd, m1T, m1F, m1T', m1F', inb_nI, ix_nI, inb_c, ix_c, nI_1, nI_pred, nI_m1, add_nIc, add_cnI, bd_v, reduceCtorEq, eqFcc, m1e0, m1e1, m1l0, m1g0, m2l0, m2g0, Int32.reduceLT, Int32.reduceLE, Int32.reduceAdd, Int32.reduceSub, Int32.reduceMul, eq_self, Bool.false_eq_true]
  refine r_then hc0 (fun M1 g1 g2 g3 => ?_)
  have hcd : ∀ d, d ≤ 30 → cnt (clG F n v) (30 - d) ≤ cnt (clG F n v) 30 := by
    intro d
    induction d with
    | zero => intro _; exact Nat.le_refl _
    | succ d ih =>
      intro hd
      have := ih (by omega)
      have e : 30 - d = (30 - (d + 1)) + 1 := by omega
      rw [e, show cnt (clG F n v) (30 - (d + 1) + 1) = cnt (clG F n v) (30 - (d + 1)) + (if clG F n v (30 - (d + 1)) = true then 1 else 0) from rfl] at this
      omega
  have hFU : 2000 < FU := FU_big
  generalize FU = fu0 at hFU ⊢
  refine ok_loop 30 (fun fu d (s : (Int32 × Int32) × Mem) => fX10_calm_17 fu s.1.1 s.1.2 (nI (30 - d)) s.2) (fun d s => s.1.2 = nI (cnt (clG F n v) 30 - cnt (clG F n v) (30 - d)) ∧ s.1.1 = (if nx (clG F n v) 30 d = 0 then -2 else nI (nx (clG F n v) 30 d)) ∧ ∃ x, TrR n (up1 v.1 18 x, v.2) F M s.2) ?_ ?_ fu0 0 ((-2, 0), M1) (by omega) (by omega) ⟨?_, rfl, v.1 18, by rw [up1_self rfl]; exact g1, g2.2.1, g2.2.2.2, frR_trans hf0 g3⟩
  · intro fu d s hd hs ih
    obtain ⟨b1, b2, x, t1, t2, t3, t4⟩ := hs
    obtain ⟨e, he⟩ : ∃ e, 30 - d = e + 1 := ⟨30 - d - 1, by omega⟩
    have he2 : 30 - (d + 1) = e := by omega
    have hle := hcd d (by omega)
    have hle2 := hcd (d + 1) (by omega)
    have hcl := cnt_le (clG F n v) 30
    rw [he] at b1 hle ⊢
    rw [he2] at ih hle2
    have hw1 : WfV n (up1 v.1 18 (nI (e + 1)), v.2) := wfV_gap hc.1 (by omega) (by omega)
    have hr : ∀ i, i < 22 → (sI s.2 172 18 (nI (e + 1))).1 172 i = up1 v.1 18 (nI (e + 1)) i := by
      intro i hi
      by_cases ei : i = 18
      · simp (disch := omega) only [↓reduceIte, ic_t, ic_f, not_true_eq_false, not_false_eq_true, ↓lt_v, rdR, rdE, rdS, leT, leTc, leTd, leF, leFc, leFd, ltT, ltTc, ltTd, ltF, ltFc, ltFd, eqT, eqTc, eqTd, eqF, eqFc, eqFd, m1T, m1F, m1T', m1F', inb_nI, ix_nI, inb_c, ix_c, nI_1, nI_pred, nI_m1, add_nIc, add_cnI, bd_v, reduceCtorEq, eqFcc, m1e0, m1e1, m1l0, m1g0, m2l0, m2g0, Int32.reduceLT, Int32.reduceLE, Int32.reduceAdd, Int32.reduceSub, Int32.reduceMul, eq_self, Bool.false_eq_true, up1_e]
      · simp (disch := omega) only [↓reduceIte, ic_t, ic_f, not_true_eq_false, not_false_eq_true, ↓lt_v, rdR, rdE, rdS, leT, leTc, leTd, leF, leFc, leFd, ltT, ltTc, ltTd, ltF, ltFc, ltFd, eqT, eqTc, eqTd, eqF, eqFc, eqFd, m1T, m1F, m1T', m1F', inb_nI, ix_nI, inb_c, ix_c, nI_1, nI_pred, nI_m1, add_nIc, add_cnI, bd_v, reduceCtorEq, eqFcc, m1e0, m1e1, m1l0, m1g0, m2l0, m2g0, Int32.reduceLT, Int32.reduceLE, Int32.reduceAdd, Int32.reduceSub, Int32.reduceMul, eq_self, Bool.false_eq_true, up1_n]
        rw [t1 i hi]
        exact up1_n ei
    have h3 : (sI s.2 172 18 (nI (e + 1))).1 169 3 = nI n := by simp (disch := omega) only [↓reduceIte, ic_t, ic_f, not_true_eq_false, not_false_eq_true, ↓lt_v, rdR, rdE, rdS, leT, leTc, leTd, leF, leFc, leFd, ltT, ltTc, ltTd, ltF, ltFc, ltFd, eqT, eqTc, eqTd, eqF, eqFc, eqFd, m1T, m1F, m1T', m1F', inb_nI, ix_nI, inb_c, ix_c, nI_1, nI_pred, nI_m1, add_nIc, add_cnI, bd_v, reduceCtorEq, eqFcc, m1e0, m1e1, m1l0, m1g0, m2l0, m2g0, Int32.reduceLT, Int32.reduceLE, Int32.reduceAdd, Int32.reduceSub, Int32.reduceMul, eq_self, Bool.false_eq_true, t2]
    have hu : RuR F (sI s.2 172 18 (nI (e + 1))) := ruR_fr t3 (row_n (by omega)) (by simp (disch := omega) only [↓reduceIte, ic_t, ic_f, not_true_eq_false, not_false_eq_true, ↓lt_v, rdR, rdE, rdS, leT, leTc, leTd, leF, leFc, leFd, ltT, ltTc, ltTd, ltF, ltFc, ltFd, eqT, eqTc, eqTd, eqF, eqFc, eqFd, m1T, m1F, m1T', m1F', inb_nI, ix_nI, inb_c, ix_c, nI_1, nI_pred, nI_m1, add_nIc, add_cnI, bd_v, reduceCtorEq, eqFcc, m1e0, m1e1, m1l0, m1g0, m2l0, m2g0, Int32.reduceLT, Int32.reduceLE, Int32.reduceAdd, Int32.reduceSub, Int32.reduceMul, eq_self, Bool.false_eq_true])
    obtain ⟨st, hs, s1, s2⟩ := hw1.2.2.2.2
    have e19 : s.2.1 172 19 = nI st := (rdS (by omega)).symm.trans ((hr 19 (by omega)).trans hs)
    have eT : (rs F (up1 v.1 18 (nI (e + 1))) v.2 n st).2 = clT F n v (e + 1) := by
      show _ = (rs F (up1 v.1 18 (nI (e + 1))) v.2 n (ix (up1 v.1 18 (nI (e + 1)) 19))).2
      rw [show up1 v.1 18 (nI (e + 1)) 19 = nI st from hs, ix_nI (by omega)]
    rw [e_X10_calm_17]
    simp (disch := omega) only [↓reduceIte, ic_t, ic_f, not_true_eq_false, not_false_eq_true, ↓lt_v, rdR, rdE, rdS, leT, leTc, leTd, leF, leFc, leFd, ltT, ltTc, ltTd, ltF, ltFc, ltFd, eqT, eqTc, eqTd, eqF, eqFc, eqFd, m1T, m1F, m1T', m1F', inb_nI, ix_nI, inb_c, ix_c, nI_1, nI_pred, nI_m1, add_nIc, add_cnI, bd_v, reduceCtorEq, eqFcc, m1e0, m1e1, m1l0, m1g0, m2l0, m2g0, Int32.reduceLT, Int32.reduceLE, Int32.reduceAdd, Int32.reduceSub, Int32.reduceMul, eq_self, Bool.false_eq_true, e19]
    refine ok_call (r_races (F := F) (w := up1 v.1 18 (nI (e + 1))) (o := v.2) (n := n) (a := 172) (st := st) hw1 ln172 (by omega) h3 hr hu s2) (fun M2 g => ?_)
    obtain ⟨hL, hf⟩ := g
    rw [eT] at hL
    have hm : (clT F n v (e + 1)).2.1 ≤ 3 := m_TT hw1
    have c5 := hL.2.2.2.2.1
    have fr2 : FrR SR SS1 M M2 := frR_trans t4 (frR_trans (frR_sI (by unfold SR; omega) (by omega)) (frR_SRu hf))
    have tr2 : ∃ x, TrR n (up1 v.1 18 x, v.2) F M M2 := ⟨nI (e + 1), fun i hi => by rw [hf.1 172 (by omega) (by unfold PRr; omega)]; exact hr i hi, by rw [hf.2.1 3 (by unfold ST; omega)]; exact h3, ruR_fr hu (hf.1 175 (by omega) (by unfold PRr; omega)) (hf.2.1 16 (by unfold ST; omega)), fr2⟩
    have hcs : cnt (clG F n v) (e + 1) = cnt (clG F n v) e + (if clG F n v e = true then 1 else 0) := rfl
    have hnx : nx (clG F n v) 30 (d + 1) = if clG F n v e then e + 1 else nx (clG F n v) 30 d := by
      show (if clG F n v (30 - (d + 1)) then 30 - (d + 1) + 1 else _) = _
      rw [he2]
    by_cases h0 : (clT F n v (e + 1)).2.1 = 0
    · have hg : clG F n v e = true := decide_eq_true h0
      rw [hg, if_pos rfl] at hcs
      rw [hg, if_pos rfl] at hnx
      simp (disch := omega) only [↓reduceIte, ic_t, ic_f, not_true_eq_false, not_false_eq_true, ↓lt_v, rdR, rdE, rdS, leT, leTc, leTd, leF, leFc, leFd, ltT, ltTc, ltTd, ltF, ltFc, ltFd, eqT, eqTc, eqTd, eqF, eqFc, eqFd, m1T, m1F, m1T', m1F', inb_nI, ix_nI, inb_c, ix_c, nI_1, nI_pred, nI_m1, add_nIc, add_cnI, bd_v, reduceCtorEq, eqFcc, m1e0, m1e1, m1l0, m1g0, m2l0, m2g0, Int32.reduceLT, Int32.reduceLE, Int32.reduceAdd, Int32.reduceSub, Int32.reduceMul, eq_self, Bool.false_eq_true, c5, h0, e_X10_calm_56, e_X10_calm_70, f1, b1]
      refine ih ((nI (e + 1), nI (cnt (clG F n v) 30 - cnt (clG F n v) (e + 1) + 1)), M2) ⟨?_, ?_, tr2⟩
      · show nI _ = nI _
        congr 1
        omega
      · rw [hnx, if_neg (by omega)]
    · have hg : clG F n v e = false := decide_eq_false h0
      rw [hg] at hcs hnx
      simp only [Bool.false_eq_true, if_false, Nat.add_zero] at hcs hnx
      simp (disch := omega) only [↓reduceIte, ic_t, ic_f, not_true_eq_false, not_false_eq_true, ↓lt_v, rdR, rdE, rdS, leT, leTc, leTd, leF, leFc, leFd, ltT, ltTc, ltTd, ltF, ltFc, ltFd, eqT, eqTc, eqTd, eqF, eqFc, eqFd, m1T, m1F, m1T', m1F', inb_nI, ix_nI, inb_c, ix_c, nI_1, nI_pred, nI_m1, add_nIc, add_cnI, bd_v, reduceCtorEq, eqFcc, m1e0, m1e1, m1l0, m1g0, m2l0, m2g0, Int32.reduceLT, Int32.reduceLE, Int32.reduceAdd, Int32.reduceSub, Int32.reduceMul, eq_self, Bool.false_eq_true, c5, e_X10_calm_56, e_X10_calm_70, f0, b1]
      refine ih ((s.1.1, nI (cnt (clG F n v) 30 - cnt (clG F n v) (e + 1))), M2) ⟨?_, ?_, tr2⟩
      · rw [hcs]
      · rw [hnx]; exact b2
  · intro fu s hs
    obtain ⟨b1, b2, x, t1, t2, t3, t4⟩ := hs
    have b1 : s.1.2 = nI (cnt (clG F n v) 30) := b1
    have hcl := cnt_le (clG F n v) 30
    rw [e_X10_calm_17]
    unfold clA clL
    by_cases h1 : cnt (clG F n v) 30 = 0
    · simp (disch := omega) only [↓reduceIte, ic_t, ic_f, not_true_eq_false, not_false_eq_true, ↓lt_v, rdR, rdE, rdS, leT, leTc, leTd, leF, leFc, leFd, ltT, ltTc, ltTd, ltF, ltFc, ltFd, eqT, eqTc, eqTd, eqF, eqFc, eqFd, m1T, m1F, m1T', m1F', inb_nI, ix_nI, inb_c, ix_c, nI_1, nI_pred, nI_m1, add_nIc, add_cnI, bd_v, reduceCtorEq, eqFcc, m1e0, m1e1, m1l0, m1g0, m2l0, m2g0, Int32.reduceLT, Int32.reduceLE, Int32.reduceAdd, Int32.reduceSub, Int32.reduceMul, eq_self, Bool.false_eq_true, b1, h1, b2]
      exact ok_some (qr_none t4)
    · simp (disch := omega) only [↓reduceIte, ic_t, ic_f, not_true_eq_false, not_false_eq_true, ↓lt_v, rdR, rdE, rdS, leT, leTc, leTd, leF, leFc, leFd, ltT, ltTc, ltTd, ltF, ltFc, ltFd, eqT, eqTc, eqTd, eqF, eqFc, eqFd, m1T, m1F, m1T', m1F', inb_nI, ix_nI, inb_c, ix_c, nI_1, nI_pred, nI_m1, add_nIc, add_cnI, bd_v, reduceCtorEq, eqFcc, m1e0, m1e1, m1l0, m1g0, m2l0, m2g0, Int32.reduceLT, Int32.reduceLE, Int32.reduceAdd, Int32.reduceSub, Int32.reduceMul, eq_self, Bool.false_eq_true, b1, b2]
      rw [if_neg h1]
      exact r_tell1 (kr_1 t4) (fun M2 q1 q2 q3 q4 => ok_some ⟨rfl, q1, q2⟩)
  · show (0 : Int32) = nI (_ - _)
    rw [Nat.sub_zero, Nat.sub_self]
    rfl
