/-! PURE: differ, helps -/
def dfV (v : VV) (g : Nat) : VV := (up1 v.1 18 (nI g), v.2)
/-- the first place that is another boat's, d days later (0: none) -/
def dfP (F : (Nat → Int32) → Int32) (n : Nat) (v : VV) (a b d : Nat) : Nat := nx (fun k => decide (¬ (days F n d (dfV v a)).2 k = (days F n d (dfV v b)).2 k)) n n
def dfQ (F : (Nat → Int32) → Int32) (n : Nat) (v : VV) (a b : Nat) : Nat := nx (fun j => decide (¬ dfP F n v a b (j + 1) = 0)) 60 60
def dfA (F : (Nat → Int32) → Int32) (n : Nat) (v : VV) (a b : Nat) : Int32 := if dfQ F n v a b = 0 then -2 else nI (dfQ F n v a b)
def dfL (F : (Nat → Int32) → Int32) (n : Nat) (v : VV) (a b : Nat) : Option (List Int64) := if dfQ F n v a b = 0 then none else some ([(nI (dfP F n v a b (dfQ F n v a b) - 1)).toInt64, (nI ((days F n (dfQ F n v a b) (dfV v a)).2 (dfP F n v a b (dfQ F n v a b) - 1))).toInt64] ++ [(nI ((days F n (dfQ F n v a b) (dfV v b)).2 (dfP F n v a b (dfQ F n v a b) - 1))).toInt64])
theorem dfQ_same {F : (Nat → Int32) → Int32} {n : Nat} {v : VV} {a : Nat} : dfQ F n v a a = 0 := nx0 (fun j _ => decide_eq_false (fun h => h (nx0 (fun k _ => decide_eq_false (fun h => h rfl)))))
theorem c_differ {M : Mem} {n R a b : Nat} {v : VV} {F : (Nat → Int32) → Int32} (hc : CR n v F R M) (ha1 : 1 ≤ a) (ha : a ≤ 30) (hb1 : 1 ≤ b) (hb : b ≤ 30) : Ok (fX9_differ (nI a) (nI b) M) (QC (dfA F n v a b) (dfL F n v a b) M) := by
  have hn : n ≤ 6 := hc.1.1
  have hR := hc.2.2.2.2
  have hwa : WfV n (dfV v a) := wfV_gap hc.1 ha1 ha
  have hwb : WfV n (dfV v b) := wfV_gap hc.1 hb1 hb
  rw [e_X9_differ]
  simp (disch := omega) only [↓reduceIte, ic_t, ic_f, not_true_eq_false, not_false_eq_true, ↓lt_v, rdR, rdE, rdS, leT, leTc, leTd, leF, leFc, leFd, ltT, ltTc, ltTd, ltF, ltFc, ltFd, eqT, eqTc, eqTd, eqF, eqFc, eqFd, m1T, m1F, m1T', m1F', inb_nI, ix_nI, inb_c, ix_c, nI_1, nI_pred, nI_m1, add_nIc, add_cnI, bd_v, reduceCtorEq, eqFcc, m1e0, m1e1, m1l0, m1g0, m2l0, m2g0, Int32.reduceLT, Int32.reduceLE, Int32.reduceAdd, Int32.reduceSub, Int32.reduceMul, eq_self, Bool.false_eq_true]
  refine c_trial hc (fun M1 g1 g2 g3 g4 => ?_)
  try simp (disch := omega) only [↓reduceIte, ic_t, ic_f, not_true_eq_false, not_false_eq_true, ↓lt_v, rdR, rdE, rdS, leT, leTc, leTd, leF, leFc, leFd, ltT, ltTc, ltTd, ltF, ltFc, ltFd, eqT, eqTc, eqTd, eqF, eqFc, eqFd, m1T, m1F, m1T', m1F', inb_nI, ix_nI, inb_c, ix_c, nI_1, nI_pred, nI_m1, add_nIc, add_cnI, bd_v, reduceCtorEq, eqFcc, m1e0, m1e1, m1l0, m1g0, m2l0, m2g0, Int32.reduceLT, Int32.reduceLE, Int32.reduceAdd, Int32.reduceSub, Int32.reduceMul, eq_self, Bool.false_eq_true]
  have g2' : RvC 6 n v (sI M1 16 5 (nI a)) := rivC_fr g2.2.1 (fun x h1 h2 => row_n (by omega))
  refine ok_call (c_copy (r := 21) (r2 := 6) hn (by omega) g2') (fun M2 q => ?_)
  obtain ⟨q1, q2⟩ := q
  try simp (disch := omega) only [↓reduceIte, ic_t, ic_f, not_true_eq_false, not_false_eq_true, ↓lt_v, rdR, rdE, rdS, leT, leTc, leTd, leF, leFc, leFd, ltT, ltTc, ltTd, ltF, ltFc, ltFd, eqT, eqTc, eqTd, eqF, eqFc, eqFd, m1T, m1F, m1T', m1F', inb_nI, ix_nI, inb_c, ix_c, nI_1, nI_pred, nI_m1, add_nIc, add_cnI, bd_v, reduceCtorEq, eqFcc, m1e0, m1e1, m1l0, m1g0, m2l0, m2g0, Int32.reduceLT, Int32.reduceLE, Int32.reduceAdd, Int32.reduceSub, Int32.reduceMul, eq_self, Bool.false_eq_true]
  have ta : RvC 16 n (dfV v a) (sI M2 21 5 (nI b)) := by
    have h1 : RvC 16 n (dfV v a) (sI M1 16 5 (nI a)) := c_gap g1 hn
    exact rivC_fr h1 (fun x h1 h2 => (row_n (by omega)).trans (q2.1 x (by omega)))
  have tb : RvC 21 n (dfV v b) (sI M2 21 5 (nI b)) := c_gap q1 hn
  have tu : RuC R F (sI M2 21 5 (nI b)) := ruC_fr g2.2.2.1 ((row_n (by omega)).trans ((q2.1 R (by omega)).trans (row_n (by omega)))) ((row_n (by omega)).trans ((q2.1 (R + 1) (by omega)).trans (row_n (by omega))))
  have tr : (sI M2 21 5 (nI b)).2.2 1 17 = R := by
    show M2.2.2 1 17 = R
    rw [q2.2]
    exact g3
  have tf : Fr SC M (sI M2 21 5 (nI b)) := fr_trans (fr_trans g4 (fr_sI (by unfold SC; omega))) (fr_trans (fr_sub q2 (fun x hx => by unfold SC; omega)) (fr_sI (by unfold SC; omega)))
  have tn : (sI M2 21 5 (nI b)).1 6 0 = nI n := by
    rw [row_n (by omega), q2.1 6 (by omega), row_n (by omega)]
    exact g2.2.1.1
  have hFU : 2000 < FU := FU_big
  generalize FU = fu0 at hFU ⊢
  refine ok_loop 61 (fun fu k (s : Mem) => fX9_differ_64 fu (nI a) (nI b) (nI k) s) (fun k s => 1 ≤ k ∧ (∀ j, j < k - 1 → decide (¬ dfP F n v a b (j + 1) = 0) = false) ∧ RvC 16 n (days F n (k - 1) (dfV v a)) s ∧ RvC 21 n (days F n (k - 1) (dfV v b)) s ∧ RuC R F s ∧ s.2.2 1 17 = R ∧ Fr SC M s ∧ s.1 6 0 = nI n) ?_ ?_ fu0 1 _ (by omega) (by omega) ⟨Nat.le_refl _, fun j hj => absurd hj (Nat.not_lt_zero _), ta, tb, tu, tr, tf, tn⟩
  · intro fu k s hk hs ih
    obtain ⟨b0, b1, b2, b3, b4, b5, b6, b7⟩ := hs
    obtain ⟨e, rfl⟩ : ∃ e, k = e + 1 := ⟨k - 1, by omega⟩
    simp only [Nat.add_sub_cancel] at b1 b2 b3 ih
    rw [e_X9_differ_64]
    by_cases hab : a = b
    · subst hab
      simp (disch := omega) only [↓reduceIte, ic_t, ic_f, not_true_eq_false, not_false_eq_true, ↓lt_v, rdR, rdE, rdS, leT, leTc, leTd, leF, leFc, leFd, ltT, ltTc, ltTd, ltF, ltFc, ltFd, eqT, eqTc, eqTd, eqF, eqFc, eqFd, m1T, m1F, m1T', m1F', inb_nI, ix_nI, inb_c, ix_c, nI_1, nI_pred, nI_m1, add_nIc, add_cnI, bd_v, reduceCtorEq, eqFcc, m1e0, m1e1, m1l0, m1g0, m2l0, m2g0, Int32.reduceLT, Int32.reduceLE, Int32.reduceAdd, Int32.reduceSub, Int32.reduceMul, eq_self, Bool.false_eq_true]
      unfold dfA dfL
      rw [dfQ_same]
      exact ok_some (qc_none b6)
    · simp (disch := omega) only [↓reduceIte, ic_t, ic_f, not_true_eq_false, not_false_eq_true, ↓lt_v, rdR, rdE, rdS, leT, leTc, leTd, leF, leFc, leFd, ltT, ltTc, ltTd, ltF, ltFc, ltFd, eqT, eqTc, eqTd, eqF, eqFc, eqFd, m1T, m1F, m1T', m1F', inb_nI, ix_nI, inb_c, ix_c, nI_1, nI_pred, nI_m1, add_nIc, add_cnI, bd_v, reduceCtorEq, eqFcc, m1e0, m1e1, m1l0, m1g0, m2l0, m2g0, Int32.reduceLT, Int32.reduceLE, Int32.reduceAdd, Int32.reduceSub, Int32.reduceMul, eq_self, Bool.false_eq_true, b5]
      refine ok_call (c_pass1 (wf_days hwa e) (by omega) hR b2 b4) (fun q h => ?_)
      obtain ⟨h1, h2, h3, h4, h5⟩ := h
      have h6 : q.2.2.2 1 17 = R := by rw [h5.2]; exact b5
      rw [h6]
      have b3' : RvC 21 n (days F n e (dfV v b)) q.2 := rivC_fr b3 (fun x x1 x2 => h5.1 x (by unfold PDy; omega))
      refine ok_call (c_pass1 (wf_days hwb e) (by omega) hR b3' h4) (fun q' j => ?_)
      obtain ⟨j1, j2, j3, j4, j5⟩ := j
      have h2' : RvC 16 n (days F n (e + 1) (dfV v a)) q'.2 := rivC_fr h2 (fun x x1 x2 => j5.1 x (by unfold PDy; omega))
      have j2 : RvC 21 n (days F n (e + 1) (dfV v b)) q'.2 := j2
      have ff : Fr SC M q'.2 := fr_trans b6 (fr_trans (fr_SC h5 (by omega) hR) (fr_SC j5 (by omega) hR))
      have n6 : q'.2.1 6 0 = nI n := by rw [j5.1 6 (by unfold PDy; omega), h5.1 6 (by unfold PDy; omega)]; exact b7
      have r6 : q'.2.2.2 1 17 = R := by rw [j5.2]; exact h6
      have next : dfP F n v a b (e + 1) = 0 → Ok (fX9_differ_64 fu (nI a) (nI b) (nI (e + 1 + 1)) q'.2) (QC (dfA F n v a b) (dfL F n v a b) M) := by
        intro h0
        refine ih _ ⟨by omega, fun j hj => ?_, h2', j2, j4, r6, ff, n6⟩
        by_cases ej : j = e
        · subst ej; exact decide_eq_false (fun q => q h0)
        · exact b1 j (by omega)
      clear ih
      generalize hg : fX9_differ_64 fu = gg at next ⊢
      have hFU2 : 2000 < FU := FU_big
      generalize FU = fu1 at hFU2 ⊢
      refine ok_loop n (fun fu k (s : Mem) => fX9_differ_106 gg fu (nI a) (nI b) (nI (e + 1)) (nI k) s) (fun k s => s = q'.2 ∧ ∀ j, j < k → decide (¬ (days F n (e + 1) (dfV v a)).2 j = (days F n (e + 1) (dfV v b)).2 j) = false) ?_ ?_ fu1 0 q'.2 (by omega) (by omega) ⟨rfl, fun j hj => absurd hj (Nat.not_lt_zero _)⟩
      · intro fu k s hk hs ih
        obtain ⟨rfl, hs⟩ := hs
        have o1 := h2'.2.2.2.2.1 k hk
        have o2 := j2.2.2.2.2.1 k hk
        have w1 : (days F n (e + 1) (dfV v a)).2 k < n := ((wf_days hwa (e + 1)).2.1 k hk).1
        have w2 : (days F n (e + 1) (dfV v b)).2 k < n := ((wf_days hwb (e + 1)).2.1 k hk).1
        rw [e_X9_differ_106]
        by_cases hd : (days F n (e + 1) (dfV v a)).2 k = (days F n (e + 1) (dfV v b)).2 k
        · simp (disch := omega) only [↓reduceIte, ic_t, ic_f, not_true_eq_false, not_false_eq_true, ↓lt_v, rdR, rdE, rdS, leT, leTc, leTd, leF, leFc, leFd, ltT, ltTc, ltTd, ltF, ltFc, ltFd, eqT, eqTc, eqTd, eqF, eqFc, eqFd, m1T, m1F, m1T', m1F', inb_nI, ix_nI, inb_c, ix_c, nI_1, nI_pred, nI_m1, add_nIc, add_cnI, bd_v, reduceCtorEq, eqFcc, m1e0, m1e1, m1l0, m1g0, m2l0, m2g0, Int32.reduceLT, Int32.reduceLE, Int32.reduceAdd, Int32.reduceSub, Int32.reduceMul, eq_self, Bool.false_eq_true, n6, o1, o2]
          refine ih _ ⟨rfl, fun j hj => ?_⟩
          by_cases ej : j = k
          · subst ej; exact decide_eq_false (fun q => q hd)
          · exact hs j (by omega)
        · simp (disch := omega) only [↓reduceIte, ic_t, ic_f, not_true_eq_false, not_false_eq_true, ↓lt_v, rdR, rdE, rdS, leT, leTc, leTd, leF, leFc, leFd, ltT, ltTc, ltTd, ltF, ltFc, ltFd, eqT, eqTc, eqTd, eqF, eqFc, eqFd, m1T, m1F, m1T', m1F', inb_nI, ix_nI, inb_c, ix_c, nI_1, nI_pred, nI_m1, add_nIc, add_cnI, bd_v, reduceCtorEq, eqFcc, m1e0, m1e1, m1l0, m1g0, m2l0, m2g0, Int32.reduceLT, Int32.reduceLE, Int32.reduceAdd, Int32.reduceSub, Int32.reduceMul, eq_self, Bool.false_eq_true, n6, o1, o2]
          have eP : dfP F n v a b (e + 1) = k + 1 := nx1 hk (decide_eq_true hd) hs
          have eQ : dfQ F n v a b = e + 1 := nx1 (by omega) (decide_eq_true (by rw [eP]; omega)) b1
          unfold dfA dfL
          rw [eQ, eP, if_neg (Nat.succ_ne_zero e), if_neg (Nat.succ_ne_zero e), Nat.add_sub_cancel]
          refine ok_call (c_tellB (kc_fr ff)) (fun M3 k3 => ?_)
          rw [k3.2.2.1 25 (by omega), o2]
          exact ok_call (c_add (by simp) k3.1 k3.2.1) (fun M4 k4 => ok_some ⟨rfl, k4.1, k4.2.1⟩)
      · intro fu s hs
        obtain ⟨rfl, hs⟩ := hs
        rw [e_X9_differ_106]
        simp (disch := omega) only [↓reduceIte, ic_t, ic_f, not_true_eq_false, not_false_eq_true, ↓lt_v, rdR, rdE, rdS, leT, leTc, leTd, leF, leFc, leFd, ltT, ltTc, ltTd, ltF, ltFc, ltFd, eqT, eqTc, eqTd, eqF, eqFc, eqFd, m1T, m1F, m1T', m1F', inb_nI, ix_nI, inb_c, ix_c, nI_1, nI_pred, nI_m1, add_nIc, add_cnI, bd_v, reduceCtorEq, eqFcc, m1e0, m1e1, m1l0, m1g0, m2l0, m2g0, Int32.reduceLT, Int32.reduceLE, Int32.reduceAdd, Int32.reduceSub, Int32.reduceMul, eq_self, Bool.false_eq_true, n6]
        exact next (nx0 hs)
  · intro fu s hs
    obtain ⟨b0, b1, b2, b3, b4, b5, b6, b7⟩ := hs
    have eQ : dfQ F n v a b = 0 := nx0 b1
    rw [e_X9_differ_64]
    simp (disch := omega) only [↓reduceIte, ic_t, ic_f, not_true_eq_false, not_false_eq_true, ↓lt_v, rdR, rdE, rdS, leT, leTc, leTd, leF, leFc, leFd, ltT, ltTc, ltTd, ltF, ltFc, ltFd, eqT, eqTc, eqTd, eqF, eqFc, eqFd, m1T, m1F, m1T', m1F', inb_nI, ix_nI, inb_c, ix_c, nI_1, nI_pred, nI_m1, add_nIc, add_cnI, bd_v, reduceCtorEq, eqFcc, m1e0, m1e1, m1l0, m1g0, m2l0, m2g0, Int32.reduceLT, Int32.reduceLE, Int32.reduceAdd, Int32.reduceSub, Int32.reduceMul, eq_self, Bool.false_eq_true]
    unfold dfA dfL
    rw [eQ]
    exact ok_some (qc_none b6)
theorem r_differ {M : Mem} {n a b : Nat} {v : VV} {F : (Nat → Int32) → Int32} (hc : RR n v F M) (ha1 : 1 ≤ a) (ha : a ≤ 30) (hb1 : 1 ≤ b) (hb : b ≤ 30) : Ok (fX10_differ (nI a) (nI b) M) (QR (dfA F n v a b) (dfL F n v a b) M) := by
  have hn : n ≤ 6 := hc.1.1
  have hwa : WfV n (dfV v a) := wfV_gap hc.1 ha1 ha
  have hwb : WfV n (dfV v b) := wfV_gap hc.1 hb1 hb
  obtain ⟨hc0, hf0⟩ := r_thrown0 hc
  have hi : ∀ (d : Nat) (M : Mem), 1 ≤ d → d ≤ 30 → fX10_in (nI d).toInt64 1 30 M = some (1, M) := fun d M h1 h2 => by rw [r_inI (lo := 1) (hi := 30) (by decide) (by decide), nI_toInt (by omega), if_pos (by omega)]
  rw [e_X10_differ]
  simp (disch := omega) only [↓reduceIte, ic_t, ic_f, not_true_eq_false, not_false_eq_true, ↓lt_v, rdR, rdE, rdS, leT, leTc, leTd, leF, leFc, leFd, ltT, ltTc, ltTd, ltF, ltFc, ltFd, eqT, eqTc, eqTd, eqF, eqFc, eqFd, m1T, m1F, m1T', m1F', inb_nI, ix_nI, inb_c, ix_c, nI_1, nI_pred, nI_m1, add_nIc, add_cnI, bd_v, reduceCtorEq, eqFcc, m1e0, m1e1, m1l0, m1g0, m2l0, m2g0, Int32.reduceLT, Int32.reduceLE, Int32.reduceAdd, Int32.reduceSub, Int32.reduceMul, eq_self, Bool.false_eq_true, hi]
  refine r_then hc0 (fun M1 g1 g2 g3 => ?_)
  have tail : ∀ s : Mem, (∀ i, i < 22 → s.1 172 i = (dfV v a).1 i) → (∀ i, i < 22 → s.1 197 i = (dfV v b).1 i) → s.1 169 3 = nI n → RuR F s → FrR SR SS1 M s → Ok (fX10_differ_79 FU 1 s) (QR (dfA F n v a b) (dfL F n v a b) M) := by
    intro s t1 t2 t3 t4 t5
    have hFU : 2000 < FU := FU_big
    generalize FU = fu0 at hFU ⊢
    refine ok_loop 61 (fun fu k (s : Mem) => fX10_differ_79 fu (nI k) s) (fun k s => 1 ≤ k ∧ (∀ j, j < k - 1 → decide (¬ dfP F n v a b (j + 1) = 0) = false) ∧ (∀ i, i < 22 → s.1 172 i = (days F n (k - 1) (dfV v a)).1 i) ∧ (∀ i, i < 22 → s.1 197 i = (days F n (k - 1) (dfV v b)).1 i) ∧ s.1 169 3 = nI n ∧ RuR F s ∧ FrR SR SS1 M s) ?_ ?_ fu0 1 s (by omega) (by omega) ⟨Nat.le_refl _, fun j hj => absurd hj (Nat.not_lt_zero _), t1, t2, t3, t4, t5⟩
    · intro fu k s hk hs ih
      obtain ⟨b0, b1, b2, b3, b4, b5, b6⟩ := hs
      obtain ⟨e, rfl⟩ : ∃ e, k = e + 1 := ⟨k - 1, by omega⟩
      simp only [Nat.add_sub_cancel] at b1 b2 b3 ih
      rw [e_X10_differ_79]
      simp (disch := omega) only [↓reduceIte, ic_t, ic_f, not_true_eq_false, not_false_eq_true, ↓lt_v, rdR, rdE, rdS, leT, leTc, leTd, leF, leFc, leFd, ltT, ltTc, ltTd, ltF, ltFc, ltFd, eqT, eqTc, eqTd, eqF, eqFc, eqFd, m1T, m1F, m1T', m1F', inb_nI, ix_nI, inb_c, ix_c, nI_1, nI_pred, nI_m1, add_nIc, add_cnI, bd_v, reduceCtorEq, eqFcc, m1e0, m1e1, m1l0, m1g0, m2l0, m2g0, Int32.reduceLT, Int32.reduceLE, Int32.reduceAdd, Int32.reduceSub, Int32.reduceMul, eq_self, Bool.false_eq_true]
      refine ok_call (r_day (wf_days hwa e) ln172 (by omega) b4 b2 b5) (fun q h => ?_)
      obtain ⟨h1, h2, h3, h4, h5⟩ := h
      have h0 : q.1 169 3 = nI n := by rw [h5.2.1 3 (by unfold SDr; omega)]; exact b4
      refine ok_call (r_day (wf_days hwb e) ln197 (by omega) h0 (fun i hi => by rw [h5.1 197 (by omega) (by unfold PDr; omega)]; exact b3 i hi) h4) (fun q' j => ?_)
      obtain ⟨j1, j2, j3, j4, j5⟩ := j
      have j0 : q'.1 169 3 = nI n := by rw [j5.2.1 3 (by unfold SDr; omega)]; exact h0
      have h1' : ∀ i, i < 22 → q'.1 172 i = (days F n (e + 1) (dfV v a)).1 i := fun i hi => by rw [j5.1 172 (by omega) (by unfold PDr; omega)]; exact h1 i hi
      have j1 : ∀ i, i < 22 → q'.1 197 i = (days F n (e + 1) (dfV v b)).1 i := j1
      have ff : FrR SR SS1 M q' := frR_trans b6 (frR_trans (frR_SR h5 (by omega)) (frR_SR j5 (by omega)))
      have next : dfP F n v a b (e + 1) = 0 → Ok (fX10_differ_79 fu (nI (e + 1 + 1)) q') (QR (dfA F n v a b) (dfL F n v a b) M) := by
        intro h0
        refine ih _ ⟨by omega, fun j hj => ?_, h1', j1, j0, j4, ff⟩
        by_cases ej : j = e
        · subst ej; exact decide_eq_false (fun q => q h0)
        · exact b1 j (by omega)
      clear ih
      generalize hg : fX10_differ_79 fu = gg at next ⊢
      have hFU2 : 2000 < FU := FU_big
      generalize FU = fu1 at hFU2 ⊢
      refine ok_loop n (fun fu k (s : Mem) => fX10_differ_104 gg fu (nI (e + 1)) (nI k) s) (fun k s => s = q' ∧ ∀ j, j < k → decide (¬ (days F n (e + 1) (dfV v a)).2 j = (days F n (e + 1) (dfV v b)).2 j) = false) ?_ ?_ fu1 0 q' (by omega) (by omega) ⟨rfl, fun j hj => absurd hj (Nat.not_lt_zero _)⟩
      · intro fu k s hk hs ih
        obtain ⟨rfl, hs⟩ := hs
        have w1 : (days F n (e + 1) (dfV v a)).2 k < n := ((wf_days hwa (e + 1)).2.1 k hk).1
        have w2 : (days F n (e + 1) (dfV v b)).2 k < n := ((wf_days hwb (e + 1)).2.1 k hk).1
        have o1 : ∀ N : Mem, (∀ x, x ≠ 169 → N.1 x = s.1 x) → (∀ x, x ≠ 1 → N.1 169 x = s.1 169 x) → fX10_boatOn 172 (nI k) N = some (nI ((days F n (e + 1) (dfV v a)).2 k), N) := fun N n1 n2 => r_boatOn (wf_days hwa (e + 1)) ln172 (by rw [n2 3 (by omega)]; exact j0) (fun i hi => by rw [n1 172 (by omega)]; exact h1' i hi) hk
        have o2 : ∀ N : Mem, (∀ x, x ≠ 169 → N.1 x = s.1 x) → (∀ x, x ≠ 1 → N.1 169 x = s.1 169 x) → fX10_boatOn 197 (nI k) N = some (nI ((days F n (e + 1) (dfV v b)).2 k), N) := fun N n1 n2 => r_boatOn (wf_days hwb (e + 1)) ln197 (by rw [n2 3 (by omega)]; exact j0) (fun i hi => by rw [n1 197 (by omega)]; exact j1 i hi) hk
        have o1s := o1 s (fun _ _ => rfl) (fun _ _ => rfl)
        have o2s := o2 s (fun _ _ => rfl) (fun _ _ => rfl)
        rw [e_X10_differ_104]
        by_cases hd : (days F n (e + 1) (dfV v a)).2 k = (days F n (e + 1) (dfV v b)).2 k
        · simp (disch := omega) only [↓reduceIte, ic_t, ic_f, not_true_eq_false, not_false_eq_true, ↓lt_v, rdR, rdE, rdS, leT, leTc, leTd, leF, leFc, leFd, ltT, ltTc, ltTd, ltF, ltFc, ltFd, eqT, eqTc, eqTd, eqF, eqFc, eqFd, m1T, m1F, m1T', m1F', inb_nI, ix_nI, inb_c, ix_c, nI_1, nI_pred, nI_m1, add_nIc, add_cnI, bd_v, reduceCtorEq, eqFcc, m1e0, m1e1, m1l0, m1g0, m2l0, m2g0, Int32.reduceLT, Int32.reduceLE, Int32.reduceAdd, Int32.reduceSub, Int32.reduceMul, eq_self, Bool.false_eq_true, j0, o1s, o2s]
          refine ih _ ⟨rfl, fun j hj => ?_⟩
          by_cases ej : j = k
          · subst ej; exact decide_eq_false (fun q => q hd)
          · exact hs j (by omega)
        · simp (disch := omega) only [↓reduceIte, ic_t, ic_f, not_true_eq_false, not_false_eq_true, ↓lt_v, rdR, rdE, rdS, leT, leTc, leTd, leF, leFc, leFd, ltT, ltTc, ltTd, ltF, ltFc, ltFd, eqT, eqTc, eqTd, eqF, eqFc, eqFd, m1T, m1F, m1T', m1F', inb_nI, ix_nI, inb_c, ix_c, nI_1, nI_pred, nI_m1, add_nIc, add_cnI, bd_v, reduceCtorEq, eqFcc, m1e0, m1e1, m1l0, m1g0, m2l0, m2g0, Int32.reduceLT, Int32.reduceLE, Int32.reduceAdd, Int32.reduceSub, Int32.reduceMul, eq_self, Bool.false_eq_true, j0, o1s, o2s]
          have eP : dfP F n v a b (e + 1) = k + 1 := nx1 hk (decide_eq_true hd) hs
          have eQ : dfQ F n v a b = e + 1 := nx1 (by omega) (decide_eq_true (by rw [eP]; omega)) b1
          unfold dfA dfL
          rw [eQ, eP, if_neg (Nat.succ_ne_zero e), if_neg (Nat.succ_ne_zero e), Nat.add_sub_cancel]
          refine r_tell1 (kr_1 ff) (fun M3 k1 k2 k3 k4 => ?_)
          have p1 := o1 M3 k3 k4
          simp (disch := omega) only [↓reduceIte, ic_t, ic_f, not_true_eq_false, not_false_eq_true, ↓lt_v, rdR, rdE, rdS, leT, leTc, leTd, leF, leFc, leFd, ltT, ltTc, ltTd, ltF, ltFc, ltFd, eqT, eqTc, eqTd, eqF, eqFc, eqFd, m1T, m1F, m1T', m1F', inb_nI, ix_nI, inb_c, ix_c, nI_1, nI_pred, nI_m1, add_nIc, add_cnI, bd_v, reduceCtorEq, eqFcc, m1e0, m1e1, m1l0, m1g0, m2l0, m2g0, Int32.reduceLT, Int32.reduceLE, Int32.reduceAdd, Int32.reduceSub, Int32.reduceMul, eq_self, Bool.false_eq_true, p1]
          refine ok_call (r_enters (by simp) k1 k2) (fun M4 m => ?_)
          have p2 := o2 M4 (fun x hx => (m.2.2.1 x hx).trans (k3 x hx)) (fun x hx => (m.2.2.2 x hx).trans (k4 x hx))
          simp (disch := omega) only [↓reduceIte, ic_t, ic_f, not_true_eq_false, not_false_eq_true, ↓lt_v, rdR, rdE, rdS, leT, leTc, leTd, leF, leFc, leFd, ltT, ltTc, ltTd, ltF, ltFc, ltFd, eqT, eqTc, eqTd, eqF, eqFc, eqFd, m1T, m1F, m1T', m1F', inb_nI, ix_nI, inb_c, ix_c, nI_1, nI_pred, nI_m1, add_nIc, add_cnI, bd_v, reduceCtorEq, eqFcc, m1e0, m1e1, m1l0, m1g0, m2l0, m2g0, Int32.reduceLT, Int32.reduceLE, Int32.reduceAdd, Int32.reduceSub, Int32.reduceMul, eq_self, Bool.false_eq_true, p2]
          exact ok_call (r_enters (by simp) m.1 m.2.1) (fun M5 m5 => ok_some ⟨rfl, m5.1, m5.2.1⟩)
      · intro fu s hs
        obtain ⟨rfl, hs⟩ := hs
        rw [e_X10_differ_104]
        simp (disch := omega) only [↓reduceIte, ic_t, ic_f, not_true_eq_false, not_false_eq_true, ↓lt_v, rdR, rdE, rdS, leT, leTc, leTd, leF, leFc, leFd, ltT, ltTc, ltTd, ltF, ltFc, ltFd, eqT, eqTc, eqTd, eqF, eqFc, eqFd, m1T, m1F, m1T', m1F', inb_nI, ix_nI, inb_c, ix_c, nI_1, nI_pred, nI_m1, add_nIc, add_cnI, bd_v, reduceCtorEq, eqFcc, m1e0, m1e1, m1l0, m1g0, m2l0, m2g0, Int32.reduceLT, Int32.reduceLE, Int32.reduceAdd, Int32.reduceSub, Int32.reduceMul, eq_self, Bool.false_eq_true, j0]
        exact next (nx0 hs)
    · intro fu s hs
      obtain ⟨b0, b1, b2, b3, b4, b5, b6⟩ := hs
      have eQ : dfQ F n v a b = 0 := nx0 b1
      rw [e_X10_differ_79]
      simp (disch := omega) only [↓reduceIte, ic_t, ic_f, not_true_eq_false, not_false_eq_true, ↓lt_v, rdR, rdE, rdS, leT, leTc, leTd, leF, leFc, leFd, ltT, ltTc, ltTd, ltF, ltFc, ltFd, eqT, eqTc, eqTd, eqF, eqFc, eqFd, m1T, m1F, m1T', m1F', inb_nI, ix_nI, inb_c, ix_c, nI_1, nI_pred, nI_m1, add_nIc, add_cnI, bd_v, reduceCtorEq, eqFcc, m1e0, m1e1, m1l0, m1g0, m2l0, m2g0, Int32.reduceLT, Int32.reduceLE, Int32.reduceAdd, Int32.reduceSub, Int32.reduceMul, eq_self, Bool.false_eq_true]
      unfold dfA dfL
      rw [eQ]
      exact ok_some (qr_none b6)
  have hFU : 2000 < FU := FU_big
  generalize FU = fu0 at hFU ⊢
  refine ok_loop 22 (fun fu k (s : Mem) => fX10_differ_37 fu (nI a) (nI b) (nI k) s) (fun k s => (∀ i, i < k → s.1 197 i = v.1 i) ∧ FrR (fun x => x = 197) (fun _ => False) M1 s) ?_ ?_ fu0 0 M1 (by omega) (by omega) ⟨fun i hi => absurd hi (Nat.not_lt_zero _), frR_rfl⟩
  · intro fu k s hk hs ih
    obtain ⟨b1, b2⟩ := hs
    have e : s.1 171 k = v.1 k := by rw [b2.1 171 (by omega) (by omega)]; exact g2.2.2.1 k hk
    rw [e_X10_differ_37]
    simp (disch := omega) only [↓reduceIte, ic_t, ic_f, not_true_eq_false, not_false_eq_true, ↓lt_v, rdR, rdE, rdS, leT, leTc, leTd, leF, leFc, leFd, ltT, ltTc, ltTd, ltF, ltFc, ltFd, eqT, eqTc, eqTd, eqF, eqFc, eqFd, m1T, m1F, m1T', m1F', inb_nI, ix_nI, inb_c, ix_c, nI_1, nI_pred, nI_m1, add_nIc, add_cnI, bd_v, reduceCtorEq, eqFcc, m1e0, m1e1, m1l0, m1g0, m2l0, m2g0, Int32.reduceLT, Int32.reduceLE, Int32.reduceAdd, Int32.reduceSub, Int32.reduceMul, eq_self, Bool.false_eq_true, e]
    refine ih _ ⟨fun i hi => ?_, frR_trans b2 (frR_sI (by omega) (by omega))⟩
    by_cases ei : i = k
    · subst ei; simp (disch := omega) only [↓reduceIte, ic_t, ic_f, not_true_eq_false, not_false_eq_true, ↓lt_v, rdR, rdE, rdS, leT, leTc, leTd, leF, leFc, leFd, ltT, ltTc, ltTd, ltF, ltFc, ltFd, eqT, eqTc, eqTd, eqF, eqFc, eqFd, m1T, m1F, m1T', m1F', inb_nI, ix_nI, inb_c, ix_c, nI_1, nI_pred, nI_m1, add_nIc, add_cnI, bd_v, reduceCtorEq, eqFcc, m1e0, m1e1, m1l0, m1g0, m2l0, m2g0, Int32.reduceLT, Int32.reduceLE, Int32.reduceAdd, Int32.reduceSub, Int32.reduceMul, eq_self, Bool.false_eq_true]
    · simp (disch := omega) only [↓reduceIte, ic_t, ic_f, not_true_eq_false, not_false_eq_true, ↓lt_v, rdR, rdE, rdS, leT, leTc, leTd, leF, leFc, leFd, ltT, ltTc, ltTd, ltF, ltFc, ltFd, eqT, eqTc, eqTd, eqF, eqFc, eqFd, m1T, m1F, m1T', m1F', inb_nI, ix_nI, inb_c, ix_c, nI_1, nI_pred, nI_m1, add_nIc, add_cnI, bd_v, reduceCtorEq, eqFcc, m1e0, m1e1, m1l0, m1g0, m2l0, m2g0, Int32.reduceLT, Int32.reduceLE, Int32.reduceAdd, Int32.reduceSub, Int32.reduceMul, eq_self, Bool.false_eq_true]
      exact b1 i (by omega)
  · intro fu s hs
    obtain ⟨b1, b2⟩ := hs
    rw [e_X10_differ_37]
    simp (disch := omega) only [↓reduceIte, ic_t, ic_f, not_true_eq_false, not_false_eq_true, ↓lt_v, rdR, rdE, rdS, leT, leTc, leTd, leF, leFc, leFd, ltT, ltTc, ltTd, ltF, ltFc, ltFd, eqT, eqTc, eqTd, eqF, eqFc, eqFd, m1T, m1F, m1T', m1F', inb_nI, ix_nI, inb_c, ix_c, nI_1, nI_pred, nI_m1, add_nIc, add_cnI, bd_v, reduceCtorEq, eqFcc, m1e0, m1e1, m1l0, m1g0, m2l0, m2g0, Int32.reduceLT, Int32.reduceLE, Int32.reduceAdd, Int32.reduceSub, Int32.reduceMul, eq_self, Bool.false_eq_true]
    refine tail _ (fun i hi => ?_) (fun i hi => ?_) ?_ ?_ ?_
    · show _ = up1 v.1 18 (nI a) i
      by_cases ei : i = 18
      · simp (disch := omega) only [↓reduceIte, ic_t, ic_f, not_true_eq_false, not_false_eq_true, ↓lt_v, rdR, rdE, rdS, leT, leTc, leTd, leF, leFc, leFd, ltT, ltTc, ltTd, ltF, ltFc, ltFd, eqT, eqTc, eqTd, eqF, eqFc, eqFd, m1T, m1F, m1T', m1F', inb_nI, ix_nI, inb_c, ix_c, nI_1, nI_pred, nI_m1, add_nIc, add_cnI, bd_v, reduceCtorEq, eqFcc, m1e0, m1e1, m1l0, m1g0, m2l0, m2g0, Int32.reduceLT, Int32.reduceLE, Int32.reduceAdd, Int32.reduceSub, Int32.reduceMul, eq_self, Bool.false_eq_true, up1_e]
      · simp (disch := omega) only [↓reduceIte, ic_t, ic_f, not_true_eq_false, not_false_eq_true, ↓lt_v, rdR, rdE, rdS, leT, leTc, leTd, leF, leFc, leFd, ltT, ltTc, ltTd, ltF, ltFc, ltFd, eqT, eqTc, eqTd, eqF, eqFc, eqFd, m1T, m1F, m1T', m1F', inb_nI, ix_nI, inb_c, ix_c, nI_1, nI_pred, nI_m1, add_nIc, add_cnI, bd_v, reduceCtorEq, eqFcc, m1e0, m1e1, m1l0, m1g0, m2l0, m2g0, Int32.reduceLT, Int32.reduceLE, Int32.reduceAdd, Int32.reduceSub, Int32.reduceMul, eq_self, Bool.false_eq_true, up1_n]
        rw [b2.1 172 (by omega) (by omega)]
        exact g1 i hi
    · show _ = up1 v.1 18 (nI b) i
      by_cases ei : i = 18
      · simp (disch := omega) only [↓reduceIte, ic_t, ic_f, not_true_eq_false, not_false_eq_true, ↓lt_v, rdR, rdE, rdS, leT, leTc, leTd, leF, leFc, leFd, ltT, ltTc, ltTd, ltF, ltFc, ltFd, eqT, eqTc, eqTd, eqF, eqFc, eqFd, m1T, m1F, m1T', m1F', inb_nI, ix_nI, inb_c, ix_c, nI_1, nI_pred, nI_m1, add_nIc, add_cnI, bd_v, reduceCtorEq, eqFcc, m1e0, m1e1, m1l0, m1g0, m2l0, m2g0, Int32.reduceLT, Int32.reduceLE, Int32.reduceAdd, Int32.reduceSub, Int32.reduceMul, eq_self, Bool.false_eq_true, up1_e]
      · simp (disch := omega) only [↓reduceIte, ic_t, ic_f, not_true_eq_false, not_false_eq_true, ↓lt_v, rdR, rdE, rdS, leT, leTc, leTd, leF, leFc, leFd, ltT, ltTc, ltTd, ltF, ltFc, ltFd, eqT, eqTc, eqTd, eqF, eqFc, eqFd, m1T, m1F, m1T', m1F', inb_nI, ix_nI, inb_c, ix_c, nI_1, nI_pred, nI_m1, add_nIc, add_cnI, bd_v, reduceCtorEq, eqFcc, m1e0, m1e1, m1l0, m1g0, m2l0, m2g0, Int32.reduceLT, Int32.reduceLE, Int32.reduceAdd, Int32.reduceSub, Int32.reduceMul, eq_self, Bool.false_eq_true, up1_n]
        exact b1 i hi
    · simp (disch := omega) only [↓reduceIte, ic_t, ic_f, not_true_eq_false, not_false_eq_true, ↓lt_v, rdR, rdE, rdS, leT, leTc, leTd, leF, leFc, leFd, ltT, ltTc, ltTd, ltF, ltFc, ltFd, eqT, eqTc, eqTd, eqF, eqFc, eqFd, m1T, m1F, m1T', m1F', inb_nI, ix_nI, inb_c, ix_c, nI_1, nI_pred, nI_m1, add_nIc, add_cnI, bd_v, reduceCtorEq, eqFcc, m1e0, m1e1, m1l0, m1g0, m2l0, m2g0, Int32.reduceLT, Int32.reduceLE, Int32.reduceAdd, Int32.reduceSub, Int32.reduceMul, eq_self, Bool.false_eq_true]
      rw [b2.2.1 3 (fun q => q)]
      exact g2.2.1
    · refine ruR_fr g2.2.2.2 ?_ ?_
      · rw [row_n (by omega), row_n (by omega), b2.1 175 (by omega) (by omega)]
      · simp (disch := omega) only [↓reduceIte, ic_t, ic_f, not_true_eq_false, not_false_eq_true, ↓lt_v, rdR, rdE, rdS, leT, leTc, leTd, leF, leFc, leFd, ltT, ltTc, ltTd, ltF, ltFc, ltFd, eqT, eqTc, eqTd, eqF, eqFc, eqFd, m1T, m1F, m1T', m1F', inb_nI, ix_nI, inb_c, ix_c, nI_1, nI_pred, nI_m1, add_nIc, add_cnI, bd_v, reduceCtorEq, eqFcc, m1e0, m1e1, m1l0, m1g0, m2l0, m2g0, Int32.reduceLT, Int32.reduceLE, Int32.reduceAdd, Int32.reduceSub, Int32.reduceMul, eq_self, Bool.false_eq_true]
        exact b2.2.1 16 (fun q => q)
    · refine frR_trans hf0 (frR_trans g3 (frR_trans (frR_sub b2 (fun x _ hx => by unfold SR; omega) (fun i hi => hi.elim)) ?_))
      unfold SR SS1 SS
      repeat (first | exact frR_rfl | refine frR_trans ?_ (frR_sI (by omega) (by omega)))
/-- helps -/
def hpP (F : (Nat → Int32) → Int32) (n : Nat) (v : VV) (b d c : Nat) : Int32 := (days F n d (up1 v.1 (6 + c) 0, v.2)).1 (12 + b)
def hpS (F : (Nat → Int32) → Int32) (n : Nat) (v : VV) (b d : Nat) : Nat → Int32 × Int32
  | 0 => (nI 0, hpP F n v b d 0)
  | k + 1 => if hpP F n v b d (k + 1) < (hpS F n v b d k).2 then (nI (k + 1), hpP F n v b d (k + 1)) else hpS F n v b d k
theorem hpP_b {F : (Nat → Int32) → Int32} {n b d c : Nat} {v : VV} (hw : WfV n v) (hb : b < n) (hc : c < n) : ∃ p, p < n ∧ hpP F n v b d c = nI p := by
  have hn : n ≤ 6 := hw.1
  have h := wf_days (F := F) (wfV_lo (i := 6 + c) (x := 0) hw (by omega)) d
  obtain ⟨k, hk, e⟩ := h.2.2.1 b hb
  refine ⟨k, hk, ?_⟩
  unfold hpP
  rw [← e]
  exact (h.2.1 k hk).2
theorem c_place {M : Mem} {n R b d : Nat} {v v1 : VV} {F : (Nat → Int32) → Int32} {z : Int32} (hc : CR n v F R M) (hb : b < n) (hd : d ≤ 30) (hw : WfV n v1)
    (hz : (z = -1 ∧ v1 = v) ∨ ∃ c, c < n ∧ z = nI c ∧ v1 = (up1 v.1 (6 + c) 0, v.2)) :
    Ok (fX9_placeIfRested z (nI b) (nI d) M) (fun q => q.1 = (days F n d v1).1 (12 + b) ∧ Fr SC M q.2) := by
  have hn : n ≤ 6 := hc.1.1
  have hR := hc.2.2.2.2
  rw [e_X9_placeIfRested]
  refine c_trial hc (fun M1 g1 g2 g3 g4 => ?_)
  have step : Ok (fX4_restBoat 16 z M1) (fun q => RvC 16 n v1 q.2 ∧ Fr (fun a => a = 18) M1 q.2) := by
    rcases hz with ⟨rfl, rfl⟩ | ⟨c, hc2, rfl, rfl⟩
    · rw [e_X4_restBoat]
      have := has_out (x := -1) g1.1 (Or.inl (by decide))
      simp (disch := omega) only [↓reduceIte, ic_t, ic_f, not_true_eq_false, not_false_eq_true, ↓lt_v, rdR, rdE, rdS, leT, leTc, leTd, leF, leFc, leFd, ltT, ltTc, ltTd, ltF, ltFc, ltFd, eqT, eqTc, eqTd, eqF, eqFc, eqFd, m1T, m1F, m1T', m1F', inb_nI, ix_nI, inb_c, ix_c, nI_1, nI_pred, nI_m1, add_nIc, add_cnI, bd_v, reduceCtorEq, eqFcc, m1e0, m1e1, m1l0, m1g0, m2l0, m2g0, Int32.reduceLT, Int32.reduceLE, Int32.reduceAdd, Int32.reduceSub, Int32.reduceMul, eq_self, Bool.false_eq_true, this]
      exact ok_some ⟨g1, fr_rfl⟩
    · refine ok_mono (c_rest hn g1 hc2) (fun q h => ⟨h.2.1, fr_sub h.2.2 (fun a ha => by omega)⟩)
  refine ok_call step (fun q h => ?_)
  obtain ⟨h1, h2⟩ := h
  have e17 : q.2.2.2 1 17 = R := by rw [h2.2]; exact g3
  rw [e17]
  refine ok_call (c_pass hw (by omega) hR h1 (ruC_fr g2.2.2.1 (h2.1 R (by omega)) (h2.1 (R + 1) (by omega))) (by omega)) (fun q2 k => ?_)
  obtain ⟨k1, k2, k3, k4, k5⟩ := k
  have := k2.2.2.2.1 b hb
  simp (disch := omega) only [↓reduceIte, ic_t, ic_f, not_true_eq_false, not_false_eq_true, ↓lt_v, rdR, rdE, rdS, leT, leTc, leTd, leF, leFc, leFd, ltT, ltTc, ltTd, ltF, ltFc, ltFd, eqT, eqTc, eqTd, eqF, eqFc, eqFd, m1T, m1F, m1T', m1F', inb_nI, ix_nI, inb_c, ix_c, nI_1, nI_pred, nI_m1, add_nIc, add_cnI, bd_v, reduceCtorEq, eqFcc, m1e0, m1e1, m1l0, m1g0, m2l0, m2g0, Int32.reduceLT, Int32.reduceLE, Int32.reduceAdd, Int32.reduceSub, Int32.reduceMul, eq_self, Bool.false_eq_true, this]
  exact ok_some ⟨rfl, fr_trans g4 (fr_trans (fr_sub h2 (fun a ha => by unfold SC; omega)) (fr_SC k5 (by omega) hR))⟩
theorem cr_fr {n R : Nat} {v : VV} {F : (Nat → Int32) → Int32} {M M' : Mem} (hc : CR n v F R M) (h : Fr SC M M') : CR n v F R M' := by
  have hR := hc.2.2.2.2
  exact ⟨hc.1, rivC_fr hc.2.1 (fun a h1 h2 => h.1 a (by unfold SC; omega)), ruC_fr hc.2.2.1 (h.1 R (by unfold SC; omega)) (h.1 (R + 1) (by unfold SC; omega)), by rw [h.2]; exact hc.2.2.2.1, hR⟩
theorem rr_fr {n : Nat} {v : VV} {F : (Nat → Int32) → Int32} {M M' : Mem} (hc : RR n v F M) (h : FrR SR SS M M') : RR n v F M' :=
  ⟨hc.1, by rw [h.2.1 3 (by unfold SS; omega)]; exact hc.2.1, fun i hi => by rw [h.1 171 (by omega) (by unfold SR; omega)]; exact hc.2.2.1 i hi, ruR_fr hc.2.2.2 (h.1 175 (by omega) (by unfold SR; omega)) (h.2.1 16 (by unfold SS; omega))⟩
theorem rr_kr {n : Nat} {v : VV} {F : (Nat → Int32) → Int32} {M M' : Mem} (hc : RR n v F M) (h : KR M M') : RR n v F M' :=
  ⟨hc.1, by rw [h.2.1 3 (by unfold SS; omega)]; exact hc.2.1, fun i hi => by rw [h.1 171 (by omega) (by unfold SR; omega)]; exact hc.2.2.1 i hi, ruR_fr hc.2.2.2 (h.1 175 (by omega) (by unfold SR; omega)) (h.2.1 16 (by unfold SS; omega))⟩
theorem c_helps {M : Mem} {n R b d : Nat} {v : VV} {F : (Nat → Int32) → Int32} (hc : CR n v F R M) (hb : b < n) (hd1 : 1 ≤ d) (hd : d ≤ 30) :
    Ok (fX9_helps (nI b) (nI d) M) (QC (hpS F n v b d (n - 1)).1 (some [(hpS F n v b d (n - 1)).2.toInt64, ((days F n d v).1 (12 + b)).toInt64]) M) := by
  have hn : n ≤ 6 := hc.1.1
  have hR := hc.2.2.2.2
  have hh := has_in hc.2.1.1 hn hb
  rw [e_X9_helps]
  simp (disch := omega) only [↓reduceIte, ic_t, ic_f, not_true_eq_false, not_false_eq_true, ↓lt_v, rdR, rdE, rdS, leT, leTc, leTd, leF, leFc, leFd, ltT, ltTc, ltTd, ltF, ltFc, ltFd, eqT, eqTc, eqTd, eqF, eqFc, eqFd, m1T, m1F, m1T', m1F', inb_nI, ix_nI, inb_c, ix_c, nI_1, nI_pred, nI_m1, add_nIc, add_cnI, bd_v, reduceCtorEq, eqFcc, m1e0, m1e1, m1l0, m1g0, m2l0, m2g0, Int32.reduceLT, Int32.reduceLE, Int32.reduceAdd, Int32.reduceSub, Int32.reduceMul, eq_self, Bool.false_eq_true, hh]
  refine ok_call (c_place hc hb hd hc.1 (Or.inl ⟨rfl, rfl⟩)) (fun q g => ?_)
  obtain ⟨g1, g2⟩ := g
  rw [g1]
  have hFU : 2000 < FU := FU_big
  generalize FU = fu0 at hFU ⊢
  refine ok_loop n (fun fu k (s : (Int32 × Int32) × Mem) => fX9_helps_42 fu (nI b) (nI d) ((days F n d v).1 (12 + b)) s.1.1 s.1.2 (nI k) s.2) (fun k s => (k = 0 → s.1 = (6, -1)) ∧ (∀ e, k = e + 1 → s.1 = ((hpS F n v b d e).2, (hpS F n v b d e).1)) ∧ Fr SC M s.2) ?_ ?_ fu0 0 ((6, -1), q.2) (by omega) (by omega) ⟨fun _ => rfl, fun e he => absurd he (by omega), g2⟩
  · intro fu k s hk hs ih
    obtain ⟨b1, b2, b3⟩ := hs
    have hcs := cr_fr hc b3
    obtain ⟨p, hp, ep⟩ := hpP_b (F := F) (d := d) hc.1 hb hk
    have hk3 : s.2.1 8 k = v.1 (6 + k) := hcs.2.1.2.2.1 k hk
    have hk1 := hcs.2.1.1
    have go : ∀ (y : Int32) (N : Mem), y = hpP F n v b d k → Fr SC M N → Ok (fX9_helps_79 (fX9_helps_42 fu) (nI b) (nI d) ((days F n d v).1 (12 + b)) s.1.1 s.1.2 (nI k) y N) (QC (hpS F n v b d (n - 1)).1 (some [(hpS F n v b d (n - 1)).2.toInt64, ((days F n d v).1 (12 + b)).toInt64]) M) := by
      intro y N hy hN
      rw [e_X9_helps_79]
      cases k with
      | zero =>
        rw [b1 rfl, hy, ep]
        simp (disch := omega) only [↓reduceIte, ic_t, ic_f, not_true_eq_false, not_false_eq_true, ↓lt_v, rdR, rdE, rdS, leT, leTc, leTd, leF, leFc, leFd, ltT, ltTc, ltTd, ltF, ltFc, ltFd, eqT, eqTc, eqTd, eqF, eqFc, eqFd, m1T, m1F, m1T', m1F', inb_nI, ix_nI, inb_c, ix_c, nI_1, nI_pred, nI_m1, add_nIc, add_cnI, bd_v, reduceCtorEq, eqFcc, m1e0, m1e1, m1l0, m1g0, m2l0, m2g0, Int32.reduceLT, Int32.reduceLE, Int32.reduceAdd, Int32.reduceSub, Int32.reduceMul, eq_self, Bool.false_eq_true]
        exact ih ((nI p, nI 0), N) ⟨fun h => absurd h (by omega), fun e he => by rw [show e = 0 by omega, ← ep]; rfl, hN⟩
      | succ e =>
        rw [b2 e rfl, hy]
        have hst : hpS F n v b d (e + 1) = if hpP F n v b d (e + 1) < (hpS F n v b d e).2 then (nI (e + 1), hpP F n v b d (e + 1)) else hpS F n v b d e := rfl
        by_cases h : hpP F n v b d (e + 1) < (hpS F n v b d e).2
        · rw [if_pos h] at hst
          rw [ic_neg (show ¬ (hpS F n v b d e).2 ≤ hpP F n v b d (e + 1) from fun q => by rw [Int32.lt_iff_toInt_lt] at h; rw [Int32.le_iff_toInt_le] at q; omega)]
          simp (disch := omega) only [↓reduceIte, ic_t, ic_f, not_true_eq_false, not_false_eq_true, ↓lt_v, rdR, rdE, rdS, leT, leTc, leTd, leF, leFc, leFd, ltT, ltTc, ltTd, ltF, ltFc, ltFd, eqT, eqTc, eqTd, eqF, eqFc, eqFd, m1T, m1F, m1T', m1F', inb_nI, ix_nI, inb_c, ix_c, nI_1, nI_pred, nI_m1, add_nIc, add_cnI, bd_v, reduceCtorEq, eqFcc, m1e0, m1e1, m1l0, m1g0, m2l0, m2g0, Int32.reduceLT, Int32.reduceLE, Int32.reduceAdd, Int32.reduceSub, Int32.reduceMul, eq_self, Bool.false_eq_true]
          exact ih ((hpP F n v b d (e + 1), nI (e + 1)), N) ⟨fun h => absurd h (by omega), fun e' he => by rw [show e' = e + 1 by omega, hst], hN⟩
        · rw [if_neg h] at hst
          rw [ic_pos (show (hpS F n v b d e).2 ≤ hpP F n v b d (e + 1) from by rw [Int32.lt_iff_toInt_lt] at h; rw [Int32.le_iff_toInt_le]; omega)]
          simp (disch := omega) only [↓reduceIte, ic_t, ic_f, not_true_eq_false, not_false_eq_true, ↓lt_v, rdR, rdE, rdS, leT, leTc, leTd, leF, leFc, leFd, ltT, ltTc, ltTd, ltF, ltFc, ltFd, eqT, eqTc, eqTd, eqF, eqFc, eqFd, m1T, m1F, m1T', m1F', inb_nI, ix_nI, inb_c, ix_c, nI_1, nI_pred, nI_m1, add_nIc, add_cnI, bd_v, reduceCtorEq, eqFcc, m1e0, m1e1, m1l0, m1g0, m2l0, m2g0, Int32.reduceLT, Int32.reduceLE, Int32.reduceAdd, Int32.reduceSub, Int32.reduceMul, eq_self, Bool.false_eq_true]
          exact ih (((hpS F n v b d e).2, (hpS F n v b d e).1), N) ⟨fun h => absurd h (by omega), fun e' he => by rw [show e' = e + 1 by omega, hst], hN⟩
    rw [e_X9_helps_42]
    simp (disch := omega) only [↓reduceIte, ic_t, ic_f, not_true_eq_false, not_false_eq_true, ↓lt_v, rdR, rdE, rdS, leT, leTc, leTd, leF, leFc, leFd, ltT, ltTc, ltTd, ltF, ltFc, ltFd, eqT, eqTc, eqTd, eqF, eqFc, eqFd, m1T, m1F, m1T', m1F', inb_nI, ix_nI, inb_c, ix_c, nI_1, nI_pred, nI_m1, add_nIc, add_cnI, bd_v, reduceCtorEq, eqFcc, m1e0, m1e1, m1l0, m1g0, m2l0, m2g0, Int32.reduceLT, Int32.reduceLE, Int32.reduceAdd, Int32.reduceSub, Int32.reduceMul, eq_self, Bool.false_eq_true, hk1, hk3]
    by_cases h0 : v.1 (6 + k) = 0
    · rw [ic_pos h0]
      refine go _ _ ?_ b3
      unfold hpP
      rw [up1_self h0]
    · rw [ic_neg h0]
      refine ok_call (c_place hcs hb hd (wfV_lo hc.1 (by omega)) (Or.inr ⟨k, hk, rfl, rfl⟩)) (fun q' j => go _ _ j.1 (fr_trans b3 j.2))
  · intro fu s hs
    obtain ⟨b1, b2, b3⟩ := hs
    have hk1 := (cr_fr hc b3).2.1.1
    rw [e_X9_helps_42, b2 (n - 1) (by omega)]
    simp (disch := omega) only [↓reduceIte, ic_t, ic_f, not_true_eq_false, not_false_eq_true, ↓lt_v, rdR, rdE, rdS, leT, leTc, leTd, leF, leFc, leFd, ltT, ltTc, ltTd, ltF, ltFc, ltFd, eqT, eqTc, eqTd, eqF, eqFc, eqFd, m1T, m1F, m1T', m1F', inb_nI, ix_nI, inb_c, ix_c, nI_1, nI_pred, nI_m1, add_nIc, add_cnI, bd_v, reduceCtorEq, eqFcc, m1e0, m1e1, m1l0, m1g0, m2l0, m2g0, Int32.reduceLT, Int32.reduceLE, Int32.reduceAdd, Int32.reduceSub, Int32.reduceMul, eq_self, Bool.false_eq_true, hk1]
    exact ok_call (c_tellB (kc_fr b3)) (fun M2 q => ok_some ⟨rfl, q.1, q.2.1⟩)
theorem r_place {M : Mem} {n b d : Nat} {v v1 : VV} {F : (Nat → Int32) → Int32} {z : Int32} (hc : RR n v F M) (hb : b < n) (hd : d ≤ 30) (hw : WfV n v1)
    (hz : (z = -1 ∧ v1 = v) ∨ ∃ c, c < n ∧ z = nI c ∧ v1 = (up1 v.1 (6 + c) 0, v.2)) :
    Ok (fX10_placeWith z (nI b) (nI d) M) (fun q => q.1 = (days F n d v1).1 (12 + b) ∧ FrR SR SS1 M q.2) := by
  have hn : n ≤ 6 := hc.1.1
  rw [e_X10_placeWith]
  refine r_then hc (fun M1 g1 g2 g3 => ?_)
  have tail : ∀ s : Mem, (∀ i, i < 22 → s.1 172 i = v1.1 i) → s.1 169 3 = nI n → RuR F s → FrR SR SS1 M s → Ok (fX10_placeWith_18 (nI b) (nI d) s) (fun q => q.1 = (days F n d v1).1 (12 + b) ∧ FrR SR SS1 M q.2) := by
    intro s s1 s2 s3 s4
    rw [e_X10_placeWith_18]
    refine ok_call (r_goesOn hw ln172 (by omega) s2 s1 s3 (by omega)) (fun M2 h => ?_)
    have e := h.1 (12 + b) (by omega)
    simp (disch := omega) only [↓reduceIte, ic_t, ic_f, not_true_eq_false, not_false_eq_true, ↓lt_v, rdR, rdE, rdS, leT, leTc, leTd, leF, leFc, leFd, ltT, ltTc, ltTd, ltF, ltFc, ltFd, eqT, eqTc, eqTd, eqF, eqFc, eqFd, m1T, m1F, m1T', m1F', inb_nI, ix_nI, inb_c, ix_c, nI_1, nI_pred, nI_m1, add_nIc, add_cnI, bd_v, reduceCtorEq, eqFcc, m1e0, m1e1, m1l0, m1g0, m2l0, m2g0, Int32.reduceLT, Int32.reduceLE, Int32.reduceAdd, Int32.reduceSub, Int32.reduceMul, eq_self, Bool.false_eq_true, e]
    exact ok_some ⟨rfl, frR_trans s4 (frR_SR h.2.2.2.2 (by omega))⟩
  rcases hz with ⟨rfl, rfl⟩ | ⟨c, hc2, rfl, rfl⟩
  · simp (disch := omega) only [↓reduceIte, ic_t, ic_f, not_true_eq_false, not_false_eq_true, ↓lt_v, rdR, rdE, rdS, leT, leTc, leTd, leF, leFc, leFd, ltT, ltTc, ltTd, ltF, ltFc, ltFd, eqT, eqTc, eqTd, eqF, eqFc, eqFd, m1T, m1F, m1T', m1F', inb_nI, ix_nI, inb_c, ix_c, nI_1, nI_pred, nI_m1, add_nIc, add_cnI, bd_v, reduceCtorEq, eqFcc, m1e0, m1e1, m1l0, m1g0, m2l0, m2g0, Int32.reduceLT, Int32.reduceLE, Int32.reduceAdd, Int32.reduceSub, Int32.reduceMul, eq_self, Bool.false_eq_true]
    exact tail M1 g1 g2.2.1 g2.2.2.2 g3
  · simp (disch := omega) only [↓reduceIte, ic_t, ic_f, not_true_eq_false, not_false_eq_true, ↓lt_v, rdR, rdE, rdS, leT, leTc, leTd, leF, leFc, leFd, ltT, ltTc, ltTd, ltF, ltFc, ltFd, eqT, eqTc, eqTd, eqF, eqFc, eqFd, m1T, m1F, m1T', m1F', inb_nI, ix_nI, inb_c, ix_c, nI_1, nI_pred, nI_m1, add_nIc, add_cnI, bd_v, reduceCtorEq, eqFcc, m1e0, m1e1, m1l0, m1g0, m2l0, m2g0, Int32.reduceLT, Int32.reduceLE, Int32.reduceAdd, Int32.reduceSub, Int32.reduceMul, eq_self, Bool.false_eq_true]
    refine tail _ (fun i hi => ?_) (by simp (disch := omega) only [↓reduceIte, ic_t, ic_f, not_true_eq_false, not_false_eq_true, ↓lt_v, rdR, rdE, rdS, leT, leTc, leTd, leF, leFc, leFd, ltT, ltTc, ltTd, ltF, ltFc, ltFd, eqT, eqTc, eqTd, eqF, eqFc, eqFd, m1T, m1F, m1T', m1F', inb_nI, ix_nI, inb_c, ix_c, nI_1, nI_pred, nI_m1, add_nIc, add_cnI, bd_v, reduceCtorEq, eqFcc, m1e0, m1e1, m1l0, m1g0, m2l0, m2g0, Int32.reduceLT, Int32.reduceLE, Int32.reduceAdd, Int32.reduceSub, Int32.reduceMul, eq_self, Bool.false_eq_true, g2.2.1]) (ruR_fr g2.2.2.2 (row_n (by omega)) (by simp (disch := omega) only [↓reduceIte, ic_t, ic_f, not_true_eq_false, not_false_eq_true, ↓lt_v, rdR, rdE, rdS, leT, leTc, leTd, leF, leFc, leFd, ltT, ltTc, ltTd, ltF, ltFc, ltFd, eqT, eqTc, eqTd, eqF, eqFc, eqFd, m1T, m1F, m1T', m1F', inb_nI, ix_nI, inb_c, ix_c, nI_1, nI_pred, nI_m1, add_nIc, add_cnI, bd_v, reduceCtorEq, eqFcc, m1e0, m1e1, m1l0, m1g0, m2l0, m2g0, Int32.reduceLT, Int32.reduceLE, Int32.reduceAdd, Int32.reduceSub, Int32.reduceMul, eq_self, Bool.false_eq_true])) (frR_trans g3 (frR_sI (by unfold SR; omega) (by omega)))
    show _ = up1 v.1 (6 + c) 0 i
    by_cases ei : i = 6 + c
    · simp (disch := omega) only [↓reduceIte, ic_t, ic_f, not_true_eq_false, not_false_eq_true, ↓lt_v, rdR, rdE, rdS, leT, leTc, leTd, leF, leFc, leFd, ltT, ltTc, ltTd, ltF, ltFc, ltFd, eqT, eqTc, eqTd, eqF, eqFc, eqFd, m1T, m1F, m1T', m1F', inb_nI, ix_nI, inb_c, ix_c, nI_1, nI_pred, nI_m1, add_nIc, add_cnI, bd_v, reduceCtorEq, eqFcc, m1e0, m1e1, m1l0, m1g0, m2l0, m2g0, Int32.reduceLT, Int32.reduceLE, Int32.reduceAdd, Int32.reduceSub, Int32.reduceMul, eq_self, Bool.false_eq_true, up1_e]
    · simp (disch := omega) only [↓reduceIte, ic_t, ic_f, not_true_eq_false, not_false_eq_true, ↓lt_v, rdR, rdE, rdS, leT, leTc, leTd, leF, leFc, leFd, ltT, ltTc, ltTd, ltF, ltFc, ltFd, eqT, eqTc, eqTd, eqF, eqFc, eqFd, m1T, m1F, m1T', m1F', inb_nI, ix_nI, inb_c, ix_c, nI_1, nI_pred, nI_m1, add_nIc, add_cnI, bd_v, reduceCtorEq, eqFcc, m1e0, m1e1, m1l0, m1g0, m2l0, m2g0, Int32.reduceLT, Int32.reduceLE, Int32.reduceAdd, Int32.reduceSub, Int32.reduceMul, eq_self, Bool.false_eq_true, up1_n]
      exact g1 i hi
theorem r_helps {M : Mem} {n b d : Nat} {v : VV} {F : (Nat → Int32) → Int32} (hc : RR n v F M) (hb : b < n) (hd1 : 1 ≤ d) (hd : d ≤ 30) :
    Ok (fX10_helps (nI b) (nI d) M) (QR (hpS F n v b d (n - 1)).1 (some [(hpS F n v b d (n - 1)).2.toInt64, ((days F n d v).1 (12 + b)).toInt64]) M) := by
  have hn : n ≤ 6 := hc.1.1
  obtain ⟨hc0, hf0⟩ := r_thrown0 hc
  have hh := r_isBoat_in hc0.2.1 hn hb
  have hi : ∀ M : Mem, fX10_in (nI d).toInt64 1 30 M = some (1, M) := fun M => by rw [r_inI (lo := 1) (hi := 30) (by decide) (by decide), nI_toInt (by omega), if_pos (by omega)]
  rw [e_X10_helps]
  simp (disch := omega) only [↓reduceIte, ic_t, ic_f, not_true_eq_false, not_false_eq_true, ↓lt_v, rdR, rdE, rdS, leT, leTc, leTd, leF, leFc, leFd, ltT, ltTc, ltTd, ltF, ltFc, ltFd, eqT, eqTc, eqTd, eqF, eqFc, eqFd, m1T, m1F, m1T', m1F', inb_nI, ix_nI, inb_c, ix_c, nI_1, nI_pred, nI_m1, add_nIc, add_cnI, bd_v, reduceCtorEq, eqFcc, m1e0, m1e1, m1l0, m1g0, m2l0, m2g0, Int32.reduceLT, Int32.reduceLE, Int32.reduceAdd, Int32.reduceSub, Int32.reduceMul, eq_self, Bool.false_eq_true, hh, hi]
  have hFU : 2000 < FU := FU_big
  generalize FU = fu0 at hFU ⊢
  refine ok_loop n (fun fu k (s : (Int32 × Int32) × Mem) => fX10_helps_37 fu (nI b) (nI d) s.1.1 s.1.2 (nI k) s.2) (fun k s => (k = 0 → s.1 = (-1, 1000000)) ∧ (∀ e, k = e + 1 → s.1 = hpS F n v b d e) ∧ FrR SR SS1 M s.2) ?_ ?_ fu0 0 ((-1, 1000000), sI M 169 0 0) (by omega) (by omega) ⟨fun _ => rfl, fun e he => absurd he (by omega), hf0⟩
  · intro fu k s hk hs ih
    obtain ⟨b1, b2, b3⟩ := hs
    have hcs : RR n v F s.2 := rr_kr hc (kr_1 b3)
    obtain ⟨p, hp, ep⟩ := hpP_b (F := F) (d := d) hc.1 hb hk
    have h3 := hcs.2.1
    rw [e_X10_helps_37]
    simp (disch := omega) only [↓reduceIte, ic_t, ic_f, not_true_eq_false, not_false_eq_true, ↓lt_v, rdR, rdE, rdS, leT, leTc, leTd, leF, leFc, leFd, ltT, ltTc, ltTd, ltF, ltFc, ltFd, eqT, eqTc, eqTd, eqF, eqFc, eqFd, m1T, m1F, m1T', m1F', inb_nI, ix_nI, inb_c, ix_c, nI_1, nI_pred, nI_m1, add_nIc, add_cnI, bd_v, reduceCtorEq, eqFcc, m1e0, m1e1, m1l0, m1g0, m2l0, m2g0, Int32.reduceLT, Int32.reduceLE, Int32.reduceAdd, Int32.reduceSub, Int32.reduceMul, eq_self, Bool.false_eq_true, h3]
    refine ok_call (r_place hcs hb hd (wfV_lo hc.1 (by omega)) (Or.inr ⟨k, hk, rfl, rfl⟩)) (fun q j => ?_)
    obtain ⟨j1, j2⟩ := j
    have j1 : q.1 = hpP F n v b d k := j1
    rw [j1]
    cases k with
    | zero =>
      rw [b1 rfl, ep]
      simp (disch := omega) only [↓reduceIte, ic_t, ic_f, not_true_eq_false, not_false_eq_true, ↓lt_v, rdR, rdE, rdS, leT, leTc, leTd, leF, leFc, leFd, ltT, ltTc, ltTd, ltF, ltFc, ltFd, eqT, eqTc, eqTd, eqF, eqFc, eqFd, m1T, m1F, m1T', m1F', inb_nI, ix_nI, inb_c, ix_c, nI_1, nI_pred, nI_m1, add_nIc, add_cnI, bd_v, reduceCtorEq, eqFcc, m1e0, m1e1, m1l0, m1g0, m2l0, m2g0, Int32.reduceLT, Int32.reduceLE, Int32.reduceAdd, Int32.reduceSub, Int32.reduceMul, eq_self, Bool.false_eq_true, e_X10_helps_69]
      exact ih ((nI 0, nI p), q.2) ⟨fun h => absurd h (by omega), fun e he => by rw [show e = 0 by omega, ← ep]; rfl, frR_trans b3 j2⟩
    | succ e =>
      rw [b2 e rfl]
      have hst : hpS F n v b d (e + 1) = if hpP F n v b d (e + 1) < (hpS F n v b d e).2 then (nI (e + 1), hpP F n v b d (e + 1)) else hpS F n v b d e := rfl
      by_cases h : hpP F n v b d (e + 1) < (hpS F n v b d e).2
      · rw [if_pos h] at hst
        rw [ic_neg (show ¬ (hpS F n v b d e).2 ≤ hpP F n v b d (e + 1) from fun q => by rw [Int32.lt_iff_toInt_lt] at h; rw [Int32.le_iff_toInt_le] at q; omega), e_X10_helps_69]
        simp (disch := omega) only [↓reduceIte, ic_t, ic_f, not_true_eq_false, not_false_eq_true, ↓lt_v, rdR, rdE, rdS, leT, leTc, leTd, leF, leFc, leFd, ltT, ltTc, ltTd, ltF, ltFc, ltFd, eqT, eqTc, eqTd, eqF, eqFc, eqFd, m1T, m1F, m1T', m1F', inb_nI, ix_nI, inb_c, ix_c, nI_1, nI_pred, nI_m1, add_nIc, add_cnI, bd_v, reduceCtorEq, eqFcc, m1e0, m1e1, m1l0, m1g0, m2l0, m2g0, Int32.reduceLT, Int32.reduceLE, Int32.reduceAdd, Int32.reduceSub, Int32.reduceMul, eq_self, Bool.false_eq_true, eq_true h]
        exact ih ((nI (e + 1), hpP F n v b d (e + 1)), q.2) ⟨fun h => absurd h (by omega), fun e' he => by rw [show e' = e + 1 by omega, hst], frR_trans b3 j2⟩
      · rw [if_neg h] at hst
        rw [ic_pos (show (hpS F n v b d e).2 ≤ hpP F n v b d (e + 1) from by rw [Int32.lt_iff_toInt_lt] at h; rw [Int32.le_iff_toInt_le]; omega), e_X10_helps_69]
        simp (disch := omega) only [↓reduceIte, ic_t, ic_f, not_true_eq_false, not_false_eq_true, ↓lt_v, rdR, rdE, rdS, leT, leTc, leTd, leF, leFc, leFd, ltT, ltTc, ltTd, ltF, ltFc, ltFd, eqT, eqTc, eqTd, eqF, eqFc, eqFd, m1T, m1F, m1T', m1F', inb_nI, ix_nI, inb_c, ix_c, nI_1, nI_pred, nI_m1, add_nIc, add_cnI, bd_v, reduceCtorEq, eqFcc, m1e0, m1e1, m1l0, m1g0, m2l0, m2g0, Int32.reduceLT, Int32.reduceLE, Int32.reduceAdd, Int32.reduceSub, Int32.reduceMul, eq_self, Bool.false_eq_true, eq_false h]
        exact ih (((hpS F n v b d e).1, (hpS F n v b d e).2), q.2) ⟨fun h => absurd h (by omega), fun e' he => by rw [show e' = e + 1 by omega, hst], frR_trans b3 j2⟩
  · intro fu s hs
    obtain ⟨b1, b2, b3⟩ := hs
    have h3 := (rr_kr hc (kr_1 b3)).2.1
    rw [e_X10_helps_37, b2 (n - 1) (by omega)]
    simp (disch := omega) only [↓reduceIte, ic_t, ic_f, not_true_eq_false, not_false_eq_true, ↓lt_v, rdR, rdE, rdS, leT, leTc, leTd, leF, leFc, leFd, ltT, ltTc, ltTd, ltF, ltFc, ltFd, eqT, eqTc, eqTd, eqF, eqFc, eqFd, m1T, m1F, m1T', m1F', inb_nI, ix_nI, inb_c, ix_c, nI_1, nI_pred, nI_m1, add_nIc, add_cnI, bd_v, reduceCtorEq, eqFcc, m1e0, m1e1, m1l0, m1g0, m2l0, m2g0, Int32.reduceLT, Int32.reduceLE, Int32.reduceAdd, Int32.reduceSub, Int32.reduceMul, eq_self, Bool.false_eq_true, h3]
    refine r_tell1 (kr_1 b3) (fun M2 q1 q2 q3 q4 => ?_)
    refine ok_call (r_place (rr_kr hc q1) hb hd hc.1 (Or.inl ⟨rfl, rfl⟩)) (fun q j => ?_)
    obtain ⟨j1, j2⟩ := j
    rw [j1]
    have q2' : RRow (some [(hpS F n v b d (n - 1)).2.toInt64]) M q.2 := by
      refine ⟨?_, fun i hi => ?_⟩
      · rw [j2.2.1 1 (fun x => x.2 rfl)]; exact q2.1
      · rw [j2.2.2]; exact q2.2 i hi
    exact ok_call (r_enters (by simp) (kr_trans q1 (kr_1 j2)) q2') (fun M4 m => ok_some ⟨rfl, m.1, m.2.1⟩)
