/-! PURE: reference: laysSoon; soonest -/
theorem r_laysSoon {s : Mem} {n : Nat} {v : VV} (hw : WfV n v) (h3 : s.1 169 3 = nI n) (hv : ∀ i, i < 22 → s.1 171 i = v.1 i) : Ok (fX10_laysSoon s) (fun s' => (∀ t, t < fac n → s'.1 194 (RN n v.2 t) = nI (dayN n t)) ∧ FrR PSn S40 s s') := by
  have hn : n ≤ 6 := hw.1
  have hfl := fac_le hn
  have hfp := fac_pos n
  have ho := wf_prm hw
  have hrp := rn_prm hn ho
  have hF := bqs_ok n (by omega)
  obtain ⟨u0, q0, p0⟩ := rn_0 hn
  obtain ⟨d0, _⟩ := day0 hn
  have e0 : lh n v.2 n = RN n v.2 0 := lh_congr (fun k hk => by rw [u0 k hk]) n (Nat.le_refl _)
  have hl0 := hrp.1 0 hfp
  rw [e_X10_laysSoon]
  refine ok_call (r_laysSets hn h3) (fun s1 g => ?_)
  obtain ⟨g1, g2, g3⟩ := g
  have f1 : FrR PSn S40 s s1 := frR_sub g3 (fun a _ ha => by unfold PPr at ha; unfold PSn; omega) (fun i hi => hi)
  have hFU : 2000 < FU := FU_big
  generalize FU = fu0 at hFU ⊢
  refine ok_loop 720 (fun fu k x => fX10_laysSoon_6 fu (nI k) x) (fun k x => (∀ j, j < k → x.1 194 j = 1000000) ∧ x.1 169 40 = nI (setsN n) ∧ SetR n (setsN n) x ∧ FrR PSn S40 s x) ?_ ?_ fu0 0 s1 (by omega) (by omega) ⟨fun j hj => absurd hj (Nat.not_lt_zero _), g1, g2, f1⟩
  · intro fu k x hk hx ih
    obtain ⟨w1, w2, w3, w4⟩ := hx
    rw [e_X10_laysSoon_6]
    simp (disch := omega) only [↓reduceIte, ic_t, ic_f, not_true_eq_false, not_false_eq_true, ↓lt_v, rdR, rdE, rdS, leT, leTc, leTd, leF, leFc, leFd, ltT, ltTc, ltTd, ltF, ltFc, ltFd, eqT, eqTc, eqTd, eqF, eqFc, eqFd, m1T, m1F, m1T', m1F', inb_nI, ix_nI, inb_c, ix_c, nI_1, nI_pred, nI_m1, add_nIc, add_cnI, bd_v, reduceCtorEq, eqFcc, m1e0, m1e1, m1l0, m1g0, m2l0, m2g0, Int32.reduceLT, Int32.reduceLE, Int32.reduceAdd, Int32.reduceSub, Int32.reduceMul, eq_self, Bool.false_eq_true]
    refine ih _ ⟨fun j hj => ?_, by simp (disch := omega) only [↓reduceIte, ic_t, ic_f, not_true_eq_false, not_false_eq_true, ↓lt_v, rdR, rdE, rdS, leT, leTc, leTd, leF, leFc, leFd, ltT, ltTc, ltTd, ltF, ltFc, ltFd, eqT, eqTc, eqTd, eqF, eqFc, eqFd, m1T, m1F, m1T', m1F', inb_nI, ix_nI, inb_c, ix_c, nI_1, nI_pred, nI_m1, add_nIc, add_cnI, bd_v, reduceCtorEq, eqFcc, m1e0, m1e1, m1l0, m1g0, m2l0, m2g0, Int32.reduceLT, Int32.reduceLE, Int32.reduceAdd, Int32.reduceSub, Int32.reduceMul, eq_self, Bool.false_eq_true]; exact w2, fun i hi k' hk' => by simp (disch := omega) only [↓reduceIte, ic_t, ic_f, not_true_eq_false, not_false_eq_true, ↓lt_v, rdR, rdE, rdS, leT, leTc, leTd, leF, leFc, leFd, ltT, ltTc, ltTd, ltF, ltFc, ltFd, eqT, eqTc, eqTd, eqF, eqFc, eqFd, m1T, m1F, m1T', m1F', inb_nI, ix_nI, inb_c, ix_c, nI_1, nI_pred, nI_m1, add_nIc, add_cnI, bd_v, reduceCtorEq, eqFcc, m1e0, m1e1, m1l0, m1g0, m2l0, m2g0, Int32.reduceLT, Int32.reduceLE, Int32.reduceAdd, Int32.reduceSub, Int32.reduceMul, eq_self, Bool.false_eq_true]; exact w3 i hi k' hk', frR_trans w4 (frR_sI (by unfold PSn; omega) (by omega))⟩
    by_cases e : j = k
    · subst e; simp (disch := omega) only [↓reduceIte, ic_t, ic_f, not_true_eq_false, not_false_eq_true, ↓lt_v, rdR, rdE, rdS, leT, leTc, leTd, leF, leFc, leFd, ltT, ltTc, ltTd, ltF, ltFc, ltFd, eqT, eqTc, eqTd, eqF, eqFc, eqFd, m1T, m1F, m1T', m1F', inb_nI, ix_nI, inb_c, ix_c, nI_1, nI_pred, nI_m1, add_nIc, add_cnI, bd_v, reduceCtorEq, eqFcc, m1e0, m1e1, m1l0, m1g0, m2l0, m2g0, Int32.reduceLT, Int32.reduceLE, Int32.reduceAdd, Int32.reduceSub, Int32.reduceMul, eq_self, Bool.false_eq_true]
    · simp (disch := omega) only [↓reduceIte, ic_t, ic_f, not_true_eq_false, not_false_eq_true, ↓lt_v, rdR, rdE, rdS, leT, leTc, leTd, leF, leFc, leFd, ltT, ltTc, ltTd, ltF, ltFc, ltFd, eqT, eqTc, eqTd, eqF, eqFc, eqFd, m1T, m1F, m1T', m1F', inb_nI, ix_nI, inb_c, ix_c, nI_1, nI_pred, nI_m1, add_nIc, add_cnI, bd_v, reduceCtorEq, eqFcc, m1e0, m1e1, m1l0, m1g0, m2l0, m2g0, Int32.reduceLT, Int32.reduceLE, Int32.reduceAdd, Int32.reduceSub, Int32.reduceMul, eq_self, Bool.false_eq_true]; exact w1 j (by omega)
  · intro fu x hx
    obtain ⟨w1, w2, w3, w4⟩ := hx
    rw [e_X10_laysSoon_6]
    simp (disch := omega) only [↓reduceIte, ic_t, ic_f, not_true_eq_false, not_false_eq_true, ↓lt_v, rdR, rdE, rdS, leT, leTc, leTd, leF, leFc, leFd, ltT, ltTc, ltTd, ltF, ltFc, ltFd, eqT, eqTc, eqTd, eqF, eqFc, eqFd, m1T, m1F, m1T', m1F', inb_nI, ix_nI, inb_c, ix_c, nI_1, nI_pred, nI_m1, add_nIc, add_cnI, bd_v, reduceCtorEq, eqFcc, m1e0, m1e1, m1l0, m1g0, m2l0, m2g0, Int32.reduceLT, Int32.reduceLE, Int32.reduceAdd, Int32.reduceSub, Int32.reduceMul, eq_self, Bool.false_eq_true]
    have x3 : x.1 169 3 = nI n := by rw [w4.2.1 3 (by unfold S40; omega)]; exact h3
    refine ok_call (r_laysStanding hw ln171 (by rw [ln189]; omega) (by rw [ln189]; omega) (by omega) (by omega) x3 (fun i hi => by rw [w4.1 171 (by omega) (by unfold PSn; omega)]; exact hv i hi)) (fun M2 g => ?_)
    obtain ⟨k1, k2⟩ := g
    have y3 : M2.1 169 3 = nI n := by rw [k2.2.1 3 (fun q => q)]; exact x3
    rw [r_numberOf (o := v.2) hn (by rw [ln189]; omega) (by rw [ln189]; omega) y3 (fun i hi => ⟨k1 i hi, by have := ho.1 i hi; omega⟩), e0]
    simp (disch := omega) only [↓reduceIte, ic_t, ic_f, not_true_eq_false, not_false_eq_true, ↓lt_v, rdR, rdE, rdS, leT, leTc, leTd, leF, leFc, leFd, ltT, ltTc, ltTd, ltF, ltFc, ltFd, eqT, eqTc, eqTd, eqF, eqFc, eqFd, m1T, m1F, m1T', m1F', inb_nI, ix_nI, inb_c, ix_c, nI_1, nI_pred, nI_m1, add_nIc, add_cnI, bd_v, reduceCtorEq, eqFcc, m1e0, m1e1, m1l0, m1g0, m2l0, m2g0, Int32.reduceLT, Int32.reduceLE, Int32.reduceAdd, Int32.reduceSub, Int32.reduceMul, eq_self, Bool.false_eq_true]
    have B1 : BfR n v.2 1 (sI (sI M2 195 0 (nI (RN n v.2 0))) 194 (RN n v.2 0) 0) := by
      refine ⟨fun i hi => ?_, fun t ht => ?_⟩
      · have : i = 0 := by omega
        subst this
        rw [q0]
        simp (disch := omega) only [↓reduceIte, ic_t, ic_f, not_true_eq_false, not_false_eq_true, ↓lt_v, rdR, rdE, rdS, leT, leTc, leTd, leF, leFc, leFd, ltT, ltTc, ltTd, ltF, ltFc, ltFd, eqT, eqTc, eqTd, eqF, eqFc, eqFd, m1T, m1F, m1T', m1F', inb_nI, ix_nI, inb_c, ix_c, nI_1, nI_pred, nI_m1, add_nIc, add_cnI, bd_v, reduceCtorEq, eqFcc, m1e0, m1e1, m1l0, m1g0, m2l0, m2g0, Int32.reduceLT, Int32.reduceLE, Int32.reduceAdd, Int32.reduceSub, Int32.reduceMul, eq_self, Bool.false_eq_true]
      · by_cases e : t = 0
        · subst e
          rw [p0, if_pos (by omega), d0]
          simp (disch := omega) only [↓reduceIte, ic_t, ic_f, not_true_eq_false, not_false_eq_true, ↓lt_v, rdR, rdE, rdS, leT, leTc, leTd, leF, leFc, leFd, ltT, ltTc, ltTd, ltF, ltFc, ltFd, eqT, eqTc, eqTd, eqF, eqFc, eqFd, m1T, m1F, m1T', m1F', inb_nI, ix_nI, inb_c, ix_c, nI_1, nI_pred, nI_m1, add_nIc, add_cnI, bd_v, reduceCtorEq, eqFcc, m1e0, m1e1, m1l0, m1g0, m2l0, m2g0, Int32.reduceLT, Int32.reduceLE, Int32.reduceAdd, Int32.reduceSub, Int32.reduceMul, eq_self, Bool.false_eq_true]
        · have hne : ¬ rp n t < 1 := fun q => by
            have h1 := (chk3_n hn ht).2.2.1
            rw [show rp n t = 0 by omega, q0] at h1
            exact e h1.symm
          have hne2 : RN n v.2 t ≠ RN n v.2 0 := fun q => e (hrp.2 _ _ ht hfp q)
          rw [if_neg hne]
          simp (disch := omega) only [↓reduceIte, ic_t, ic_f, not_true_eq_false, not_false_eq_true, ↓lt_v, rdR, rdE, rdS, leT, leTc, leTd, leF, leFc, leFd, ltT, ltTc, ltTd, ltF, ltFc, ltFd, eqT, eqTc, eqTd, eqF, eqFc, eqFd, m1T, m1F, m1T', m1F', inb_nI, ix_nI, inb_c, ix_c, nI_1, nI_pred, nI_m1, add_nIc, add_cnI, bd_v, reduceCtorEq, eqFcc, m1e0, m1e1, m1l0, m1g0, m2l0, m2g0, Int32.reduceLT, Int32.reduceLE, Int32.reduceAdd, Int32.reduceSub, Int32.reduceMul, eq_self, Bool.false_eq_true]
          rw [k2.1 194 (by omega) (by omega)]
          exact w1 _ (by have := hrp.1 t ht; omega)
    have m3 : (sI (sI M2 195 0 (nI (RN n v.2 0))) 194 (RN n v.2 0) 0).1 169 3 = nI n := by simp (disch := omega) only [↓reduceIte, ic_t, ic_f, not_true_eq_false, not_false_eq_true, ↓lt_v, rdR, rdE, rdS, leT, leTc, leTd, leF, leFc, leFd, ltT, ltTc, ltTd, ltF, ltFc, ltFd, eqT, eqTc, eqTd, eqF, eqFc, eqFd, m1T, m1F, m1T', m1F', inb_nI, ix_nI, inb_c, ix_c, nI_1, nI_pred, nI_m1, add_nIc, add_cnI, bd_v, reduceCtorEq, eqFcc, m1e0, m1e1, m1l0, m1g0, m2l0, m2g0, Int32.reduceLT, Int32.reduceLE, Int32.reduceAdd, Int32.reduceSub, Int32.reduceMul, eq_self, Bool.false_eq_true]; exact y3
    have m40 : (sI (sI M2 195 0 (nI (RN n v.2 0))) 194 (RN n v.2 0) 0).1 169 40 = nI (setsN n) := by simp (disch := omega) only [↓reduceIte, ic_t, ic_f, not_true_eq_false, not_false_eq_true, ↓lt_v, rdR, rdE, rdS, leT, leTc, leTd, leF, leFc, leFd, ltT, ltTc, ltTd, ltF, ltFc, ltFd, eqT, eqTc, eqTd, eqF, eqFc, eqFd, m1T, m1F, m1T', m1F', inb_nI, ix_nI, inb_c, ix_c, nI_1, nI_pred, nI_m1, add_nIc, add_cnI, bd_v, reduceCtorEq, eqFcc, m1e0, m1e1, m1l0, m1g0, m2l0, m2g0, Int32.reduceLT, Int32.reduceLE, Int32.reduceAdd, Int32.reduceSub, Int32.reduceMul, eq_self, Bool.false_eq_true]; rw [k2.2.1 40 (fun q => q)]; exact w2
    have mS : SetR n (setsN n) (sI (sI M2 195 0 (nI (RN n v.2 0))) 194 (RN n v.2 0) 0) := fun i hi k hk => by simp (disch := omega) only [↓reduceIte, ic_t, ic_f, not_true_eq_false, not_false_eq_true, ↓lt_v, rdR, rdE, rdS, leT, leTc, leTd, leF, leFc, leFd, ltT, ltTc, ltTd, ltF, ltFc, ltFd, eqT, eqTc, eqTd, eqF, eqFc, eqFd, m1T, m1F, m1T', m1F', inb_nI, ix_nI, inb_c, ix_c, nI_1, nI_pred, nI_m1, add_nIc, add_cnI, bd_v, reduceCtorEq, eqFcc, m1e0, m1e1, m1l0, m1g0, m2l0, m2g0, Int32.reduceLT, Int32.reduceLE, Int32.reduceAdd, Int32.reduceSub, Int32.reduceMul, eq_self, Bool.false_eq_true]; rw [k2.1 192 (by omega) (by omega)]; exact w3 i hi k hk
    have mF : FrR PSn S40 s (sI (sI M2 195 0 (nI (RN n v.2 0))) 194 (RN n v.2 0) 0) := frR_trans (frR_trans (frR_trans w4 (frR_sub k2 (fun a _ ha => by unfold PSn; omega) (fun i hi => hi.elim))) (frR_sI (by unfold PSn; omega) (by omega))) (frR_sI (by unfold PSn; omega) (by omega))
    generalize sI (sI M2 195 0 (nI (RN n v.2 0))) 194 (RN n v.2 0) 0 = M3 at B1 m3 m40 mS mF ⊢
    have hFU2 : 2000 < FU := FU_big
    generalize FU = fu2 at hFU2 ⊢
    refine ok_loop (fac n) (fun fu i (y : Int32 × Mem) => fX10_laysSoon_70 fu y.1 (nI i) y.2) (fun i y => ∃ l, bqs n i = some l ∧ l ≤ fac n ∧ y.1 = nI l ∧ BfR n v.2 l y.2 ∧ y.2.1 169 3 = nI n ∧ y.2.1 169 40 = nI (setsN n) ∧ SetR n (setsN n) y.2 ∧ FrR PSn S40 s y.2) ?_ ?_ fu2 0 (1, M3) (by omega) (by omega) ⟨1, rfl, by omega, rfl, B1, m3, m40, mS, mF⟩
    · intro fu i y hi hy ih
      obtain ⟨l, l1, l2, l3, l4, l5, l6, l7, l8⟩ := hy
      obtain ⟨p, hp⟩ := bqs_some (fac n - (i + 1)) (i + 1) _ (by rw [show i + 1 + (fac n - (i + 1)) = fac n by omega]; exact hF)
      have hp' : (if i < l then bq n i l (setsN n) else none) = some p := by
        have : (bqs n i).bind (fun l => if i < l then bq n i l (setsN n) else none) = some p := hp
        rw [l1] at this
        exact this
      by_cases c : i < l
      · rw [if_pos c] at hp'
        have c6 := (chk3_n hn hi).2.2.2.2.2
        have hq := l4.1 i c
        have hrl := hrp.1 _ c6
        rw [e_X10_laysSoon_70, l3]
        simp (disch := omega) only [↓reduceIte, ic_t, ic_f, not_true_eq_false, not_false_eq_true, ↓lt_v, rdR, rdE, rdS, leT, leTc, leTd, leF, leFc, leFd, ltT, ltTc, ltTd, ltF, ltFc, ltFd, eqT, eqTc, eqTd, eqF, eqFc, eqFd, m1T, m1F, m1T', m1F', inb_nI, ix_nI, inb_c, ix_c, nI_1, nI_pred, nI_m1, add_nIc, add_cnI, bd_v, reduceCtorEq, eqFcc, m1e0, m1e1, m1l0, m1g0, m2l0, m2g0, Int32.reduceLT, Int32.reduceLE, Int32.reduceAdd, Int32.reduceSub, Int32.reduceMul, eq_self, Bool.false_eq_true, hq]
        refine ok_call (r_laysOrder (a := 189) hn hrl ln189 (by omega) l5) (fun M5 g => ?_)
        obtain ⟨o1, o2⟩ := g
        have hpc := prm_comp ho (chk1_n hn c6).1
        refine r_spread hn ho hi c l2 (by rw [o2.2.1 3 (fun q => q)]; exact l5) (by rw [o2.2.1 40 (fun q => q)]; exact l6) (fun a ha b hb => by rw [o2.1 192 (by omega) (by omega)]; exact l7 a ha b hb) (fun k hk => ?_) (bfR_fr l4 (o2.1 194 (by omega) (by omega)) (o2.1 195 (by omega) (by omega))) hp' (fun s' a1 a2 a3 a4 a5 a6 a7 => ?_)
        · rw [o1 k hk]
          have := un_lh hn hpc k hk
          exact congrArg nI this
        · exact ih (nI p, s') ⟨p, hp, a1, rfl, a6, a3, a4, a5, frR_trans l8 (frR_trans (frR_sub o2 (fun a _ ha => by unfold PSn; omega) (fun i hi => hi.elim)) (frR_sub a7 (fun a _ ha => ha) (fun i hi => hi.elim)))⟩
      · rw [if_neg c] at hp'; cases hp'
    · intro fu y hy
      obtain ⟨l, l1, l2, l3, l4, l5, l6, l7, l8⟩ := hy
      rw [hF] at l1
      injection l1 with l1
      subst l1
      rw [e_X10_laysSoon_70, l3]
      simp (disch := omega) only [↓reduceIte, ic_t, ic_f, not_true_eq_false, not_false_eq_true, ↓lt_v, rdR, rdE, rdS, leT, leTc, leTd, leF, leFc, leFd, ltT, ltTc, ltTd, ltF, ltFc, ltFd, eqT, eqTc, eqTd, eqF, eqFc, eqFd, m1T, m1F, m1T', m1F', inb_nI, ix_nI, inb_c, ix_c, nI_1, nI_pred, nI_m1, add_nIc, add_cnI, bd_v, reduceCtorEq, eqFcc, m1e0, m1e1, m1l0, m1g0, m2l0, m2g0, Int32.reduceLT, Int32.reduceLE, Int32.reduceAdd, Int32.reduceSub, Int32.reduceMul, eq_self, Bool.false_eq_true]
      refine ok_some ⟨fun t ht => ?_, l8⟩
      rw [l4.2 t ht, if_pos (chk3_n hn ht).2.2.2.2.1]
theorem st_soonest {M : Mem} (h : Rel M) : StI (fun M => fX9_soonest M) (fun M => fX10_soonest M) M := by
  refine st_order (kC := fun M => (fX9_relate 6 M).bind fun q4 => (fX1_prepare (q4.1 6 0) q4).bind fun q6 => (fX1_daysFor 143 q6).bind fun q8 => some (q8.1, q8.2)) (kR := fun M => (fX10_numberOf 190 M).bind fun q9 => (fX10_laysSoon q9.2).bind fun q11 => ic (inb q9.1 720) (some (q11.1 194 (ix q9.1), q11)) (none)) h (fun M => e_X9_soonest M) (fun M => by show fX10_soonest M = _; rw [e_X10_soonest, lt_v]) (fun S g hS hg => ?_)
  have hn : S.1.1 ≤ 6 := hS.1.1
  have hfl := fac_le hn
  have hpl : Prm S.1.1 (fun k => plv S.1.2.1 (g k)) := ⟨fun i hi => (wf_plv hS.1 (hg.1 i hi)).1, fun i j hi hj e => hg.2 i j hi hj (by
    have h1 := (wf_plv hS.1 (hg.1 i hi)).2.2
    have h2 := (wf_plv hS.1 (hg.1 j hj)).2.2
    have e : plv S.1.2.1 (g i) = plv S.1.2.1 (g j) := e
    rw [← h1, ← h2, e])⟩
  have ht := lh_fac (o := fun k => plv S.1.2.1 (g k)) hn
  have hu := un_lh hn hpl
  have eR : RN S.1.1 S.1.2.1.2 (lh S.1.1 (fun k => plv S.1.2.1 (g k)) S.1.1) = lh S.1.1 g S.1.1 := lh_congr (fun k hk => by
    rw [hu k hk]; exact (wf_plv hS.1 (hg.1 k hk)).2.2) _ (Nat.le_refl _)
  have hl2 := lh_fac (o := g) hn
  refine ⟨nI (dayN S.1.1 (lh S.1.1 (fun k => plv S.1.2.1 (g k)) S.1.1)), S, hS, fun M hc h142 => ?_, fun M1 hr h190 => ?_⟩
  · show Ok ((fX9_relate 6 M).bind fun q4 => (fX1_prepare (q4.1 6 0) q4).bind fun q6 => (fX1_daysFor 143 q6).bind fun q8 => some (q8.1, q8.2)) _
    refine ok_call (c_relate hn hc.1.2.1 hg.1 h142) (fun M1 k => ?_)
    obtain ⟨k1, k2⟩ := k
    have e0 : M1.1 6 0 = nI S.1.1 := by rw [k2.1 6 (by omega)]; exact hc.1.2.1.1
    have kc : KC M M1 := ⟨fun a h1 _ => k2.1 a (by unfold SC at h1; omega), fun a _ => by rw [k2.2], by rw [k2.2]⟩
    have hc1 : CRel S M1 := crel_q (l := none) hc kc ⟨k2.1 4 (by omega), by rw [k2.2]⟩
    rw [e0]
    refine ok_call (c_prepare hn hc1.2.2.2.2.2.2.2) (fun M2 w => ?_)
    obtain ⟨w1, w2⟩ := w
    have hnum := c_numberOf (M := M2) (a := 143) hn hpl ln143 w1.1 w1.2.1 (fun k hk => by rw [w2.1 143 (by unfold PL; omega), k1 k hk]; exact (wf_plv hS.1 (hg.1 k hk)).2.1)
    have hd := w1.2.2.2.2.2 _ ht
    rw [e_X1_daysFor, hnum]
    simp (disch := omega) only [↓reduceIte, ic_t, ic_f, not_true_eq_false, not_false_eq_true, ↓lt_v, rdR, rdE, rdS, leT, leTc, leTd, leF, leFc, leFd, ltT, ltTc, ltTd, ltF, ltFc, ltFd, eqT, eqTc, eqTd, eqF, eqFc, eqFd, m1T, m1F, m1T', m1F', inb_nI, ix_nI, inb_c, ix_c, nI_1, nI_pred, nI_m1, add_nIc, add_cnI, bd_v, reduceCtorEq, eqFcc, m1e0, m1e1, m1l0, m1g0, m2l0, m2g0, Int32.reduceLT, Int32.reduceLE, Int32.reduceAdd, Int32.reduceSub, Int32.reduceMul, eq_self, Bool.false_eq_true, hd]
    exact ok_some ⟨rfl, crel_law hc1 w2 (lawA_P hn w1), cfr_tr (kc_cfr kc) (fr_cfr w2 (fun a ha => by unfold PL at ha; omega))⟩
  · show Ok ((fX10_numberOf 190 M1).bind fun q9 => (fX10_laysSoon q9.2).bind fun q11 => ic (inb q9.1 720) (some (q11.1 194 (ix q9.1), q11)) (none)) _
    rw [r_numberOf (o := g) hn (by rw [ln190]; omega) (by rw [ln190]; omega) hr.1.2.1 (fun i hi => ⟨h190 i hi, by have := hg.1 i hi; omega⟩)]
    simp (disch := omega) only [↓reduceIte, ic_t, ic_f, not_true_eq_false, not_false_eq_true, ↓lt_v, rdR, rdE, rdS, leT, leTc, leTd, leF, leFc, leFd, ltT, ltTc, ltTd, ltF, ltFc, ltFd, eqT, eqTc, eqTd, eqF, eqFc, eqFd, m1T, m1F, m1T', m1F', inb_nI, ix_nI, inb_c, ix_c, nI_1, nI_pred, nI_m1, add_nIc, add_cnI, bd_v, reduceCtorEq, eqFcc, m1e0, m1e1, m1l0, m1g0, m2l0, m2g0, Int32.reduceLT, Int32.reduceLE, Int32.reduceAdd, Int32.reduceSub, Int32.reduceMul, eq_self, Bool.false_eq_true]
    refine ok_call (r_laysSoon hS.1 hr.1.2.1 hr.1.2.2.1) (fun M2 w => ?_)
    obtain ⟨w1, w2⟩ := w
    have hd := w1 _ ht
    rw [eR] at hd
    simp (disch := omega) only [↓reduceIte, ic_t, ic_f, not_true_eq_false, not_false_eq_true, ↓lt_v, rdR, rdE, rdS, leT, leTc, leTd, leF, leFc, leFd, ltT, ltTc, ltTd, ltF, ltFc, ltFd, eqT, eqTc, eqTd, eqF, eqFc, eqFd, m1T, m1F, m1T', m1F', inb_nI, ix_nI, inb_c, ix_c, nI_1, nI_pred, nI_m1, add_nIc, add_cnI, bd_v, reduceCtorEq, eqFcc, m1e0, m1e1, m1l0, m1g0, m2l0, m2g0, Int32.reduceLT, Int32.reduceLE, Int32.reduceAdd, Int32.reduceSub, Int32.reduceMul, eq_self, Bool.false_eq_true, hd]
    have kr : KR M1 M2 := kr_1 (frR_sub w2 (fun b _ hb => by unfold PSn at hb; unfold SR; omega) (fun i hi => by unfold S40 at hi; unfold SS1 SS; omega))
    exact ok_some ⟨rfl, rrel_q (l := none) hr kr ⟨w2.2.1 1 (by unfold S40; omega), by rw [w2.2.2]⟩, kr_rfr kr⟩
