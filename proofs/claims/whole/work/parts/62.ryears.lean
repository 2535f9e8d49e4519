/-! PURE: years of the reference -/
theorem r_yearStep {M s : Mem} {n d k fu a b c : Nat} {r1 r2 r3 : Int32} {F : (Nat → Int32) → Int32} {Y : VV × Int32 × Nat} {Q : Int32 × Mem → Prop} (hw : WfV n Y.1) (hk : k < d) (hd : d ≤ 60) (b3 : TrR n Y.1 F M s) (b30 : s.1 169 30 = nI Y.2.2)
    (d4 : fX10_draws (nI 4) s = some (nI a, sI s 169 50 r1)) (dn : n ≠ 0 → fX10_draws (nI n) (sI s 169 50 r1) = some (nI b, sI (sI s 169 50 r1) 169 50 r2)) (d9 : fX10_draws (nI 9) (sI (sI s 169 50 r1) 169 50 r2) = some (nI c, sI (sI (sI s 169 50 r1) 169 50 r2) 169 50 r3)) (l4 : a < 4) (bl : n ≠ 0 → b < n) (cl : c < 9)
    (ih : ∀ s', s'.1 169 50 = (yT F n Y a b c r1 r2 r3).2.1 → s'.1 169 30 = nI (yT F n Y a b c r1 r2 r3).2.2 → TrR n (yT F n Y a b c r1 r2 r3).1 F M s' → Ok (fX10_years_40 fu (nI d) (nI (k + 1)) s') Q) :
    Ok (fX10_years_40 (fu + 1) (nI d) (nI k) s) Q := by
  have hn : n ≤ 6 := hw.1
  obtain ⟨t1, t2, t3, t4⟩ := b3
  have nth : ∀ (N : Mem) (z : Int32), TrR n Y.1 F M N → TrR n Y.1 F M (sI N 169 50 z) := fun N z h => ⟨fun i hi => by rw [rdR (by omega)]; exact h.1 i hi, by rw [rdS (by omega)]; exact h.2.1, ruR_fr h.2.2.1 (row_n (by omega)) (rdS (by omega)), frR_trans h.2.2.2 (frR_sI (by omega) (by unfold SS1 SS; omega))⟩
  have tr1 := nth s r1 ⟨t1, t2, t3, t4⟩
  rw [e_X10_years_40, show (4 : Int32) = nI 4 from rfl, show (9 : Int32) = nI 9 from rfl, d4]
  unfold yT at ih
  by_cases h2 : a < 2
  · simp (disch := omega) only [↓reduceIte, ic_t, ic_f, not_true_eq_false, not_false_eq_true, ↓lt_v, rdR, rdE, rdS, leT, leTc, leTd, leF, leFc, leFd, ltT, ltTc, ltTd, ltF, ltFc, ltFd, eqT, eqTc, eqTd, eqF, eqFc, eqFd, m1T, m1F, m1T', m1F', inb_nI, ix_nI, inb_c, ix_c, nI_1, nI_pred, nI_m1, add_nIc, add_cnI, bd_v, reduceCtorEq, eqFcc, m1e0, m1e1, m1l0, m1g0, m2l0, m2g0, Int32.reduceLT, Int32.reduceLE, Int32.reduceAdd, Int32.reduceSub, Int32.reduceMul, eq_self, Bool.false_eq_true, bd_v]
    rw [if_pos h2] at ih
    obtain ⟨u1, u2, u3, u4⟩ := tr1
    refine ok_call (r_day hw ln172 (by omega) u2 u1 u3) (fun q g => ih q ?_ ?_ ⟨g.1, ?_, g.2.2.2.1, frR_trans u4 (frR_SR g.2.2.2.2 (by omega))⟩)
    · rw [g.2.2.2.2.2.1 50 (by unfold SDr; omega)]; exact rdE rfl rfl
    · rw [g.2.2.1, rdS (by omega), b30, nI_add]
    · rw [g.2.2.2.2.2.1 3 (by unfold SDr; omega)]; exact u2
  · rw [if_neg h2] at ih
    by_cases h0 : n = 0
    · rw [if_pos h0] at ih
      simp (disch := omega) only [↓reduceIte, ic_t, ic_f, not_true_eq_false, not_false_eq_true, ↓lt_v, rdR, rdE, rdS, leT, leTc, leTd, leF, leFc, leFd, ltT, ltTc, ltTd, ltF, ltFc, ltFd, eqT, eqTc, eqTd, eqF, eqFc, eqFd, m1T, m1F, m1T', m1F', inb_nI, ix_nI, inb_c, ix_c, nI_1, nI_pred, nI_m1, add_nIc, add_cnI, bd_v, reduceCtorEq, eqFcc, m1e0, m1e1, m1l0, m1g0, m2l0, m2g0, Int32.reduceLT, Int32.reduceLE, Int32.reduceAdd, Int32.reduceSub, Int32.reduceMul, eq_self, Bool.false_eq_true, bd_v, t2]
      exact ih _ (rdE rfl rfl) (by rw [rdS (by omega)]; exact b30) tr1
    · have hb := bl h0
      have dn := dn h0
      have tr2 := nth _ r2 tr1
      rw [if_neg h0] at ih
      by_cases h3 : a = 2
      · rw [if_pos h3] at ih
        simp (disch := omega) only [↓reduceIte, ic_t, ic_f, not_true_eq_false, not_false_eq_true, ↓lt_v, rdR, rdE, rdS, leT, leTc, leTd, leF, leFc, leFd, ltT, ltTc, ltTd, ltF, ltFc, ltFd, eqT, eqTc, eqTd, eqF, eqFc, eqFd, m1T, m1F, m1T', m1F', inb_nI, ix_nI, inb_c, ix_c, nI_1, nI_pred, nI_m1, add_nIc, add_cnI, bd_v, reduceCtorEq, eqFcc, m1e0, m1e1, m1l0, m1g0, m2l0, m2g0, Int32.reduceLT, Int32.reduceLE, Int32.reduceAdd, Int32.reduceSub, Int32.reduceMul, eq_self, Bool.false_eq_true, bd_v, t2, dn, d9]
        have tr3 := nth _ r3 tr2
        obtain ⟨u1, u2, u3, u4⟩ := tr3
        refine ih _ ?_ ?_ ⟨fun i hi => ?_, ?_, ruR_fr u3 (row_n (by omega)) (rdR (by omega)), frR_trans u4 (frR_sI (by unfold SR; omega) (by omega))⟩
        · rw [rdR (by omega)]; exact rdE rfl rfl
        · rw [rdR (by omega), rdS (by omega), rdS (by omega), rdS (by omega)]; exact b30
        · show _ = up1 Y.1.1 b (nI (1 + c)) i
          by_cases ei : i = b
          · rw [rdE rfl ei, up1_e ei]
          · rw [rdS ei, up1_n ei]; exact u1 i hi
        · rw [rdR (by omega)]; exact u2
      · rw [if_neg h3] at ih
        simp (disch := omega) only [↓reduceIte, ic_t, ic_f, not_true_eq_false, not_false_eq_true, ↓lt_v, rdR, rdE, rdS, leT, leTc, leTd, leF, leFc, leFd, ltT, ltTc, ltTd, ltF, ltFc, ltFd, eqT, eqTc, eqTd, eqF, eqFc, eqFd, m1T, m1F, m1T', m1F', inb_nI, ix_nI, inb_c, ix_c, nI_1, nI_pred, nI_m1, add_nIc, add_cnI, bd_v, reduceCtorEq, eqFcc, m1e0, m1e1, m1l0, m1g0, m2l0, m2g0, Int32.reduceLT, Int32.reduceLE, Int32.reduceAdd, Int32.reduceSub, Int32.reduceMul, eq_self, Bool.false_eq_true, bd_v, t2, dn]
        obtain ⟨u1, u2, u3, u4⟩ := tr2
        obtain ⟨p1, p2⟩ := wf_place hw hb
        have := r_foot hw ln172 (by omega) u2 u1 p1
        rw [p2] at this
        refine ok_call this (fun q g => ih q.2 ?_ ?_ ⟨g.2.1, ?_, ruR_fr u3 (g.2.2.1 175 (by omega) (by omega)) (g.2.2.2.1 16 (fun q => q)), frR_trans u4 (frR_sub g.2.2 (fun x _ hx => by unfold SR; omega) (fun i hi => hi.elim))⟩)
        · rw [g.2.2.2.1 50 (fun q => q)]; exact rdE rfl rfl
        · rw [g.2.2.2.1 30 (fun q => q), rdS (by omega), rdS (by omega)]; exact b30
        · rw [g.2.2.2.1 3 (fun q => q)]; exact u2
theorem r_years {M : Mem} {n d : Nat} {v : VV} {F : (Nat → Int32) → Int32} {x : Int32} (hc : RR n v F M) (hd1 : 1 ≤ d) (hd : d ≤ 60) :
    Ok (fX10_years x (nI d) M) (QR (if n = 0 then -1 else nI ((yrs F n v x d).1.2 0)) (some [(nI (yrs F n v x d).2.2).toInt64, (sumI (fun i => (yrs F n v x d).1.1 (6 + i)) n).toInt64]) M) := by
  have hn : n ≤ 6 := hc.1.1
  obtain ⟨hc0, hf0⟩ := r_thrown0 hc
  have hi : ∀ M : Mem, fX10_in (nI d).toInt64 1 60 M = some (1, M) := fun M => by rw [r_inI (lo := 1) (hi := 60) (by decide) (by decide), nI_toInt (by omega), if_pos (by omega)]
  rw [e_X10_years]
  simp (disch := omega) only [↓reduceIte, ic_t, ic_f, not_true_eq_false, not_false_eq_true, ↓lt_v, rdR, rdE, rdS, leT, leTc, leTd, leF, leFc, leFd, ltT, ltTc, ltTd, ltF, ltFc, ltFd, eqT, eqTc, eqTd, eqF, eqFc, eqFd, m1T, m1F, m1T', m1F', inb_nI, ix_nI, inb_c, ix_c, nI_1, nI_pred, nI_m1, add_nIc, add_cnI, bd_v, reduceCtorEq, eqFcc, m1e0, m1e1, m1l0, m1g0, m2l0, m2g0, Int32.reduceLT, Int32.reduceLE, Int32.reduceAdd, Int32.reduceSub, Int32.reduceMul, eq_self, Bool.false_eq_true, hi]
  have hf1 : FrR SR SS1 (sI M 169 0 0) (sI (sI M 169 0 0) 169 50 x) := frR_sI (by omega) (by unfold SS1 SS; omega)
  have hc1 : RR n v F (sI (sI M 169 0 0) 169 50 x) := rr_kr hc0 (kr_1 hf1)
  refine ok_call r_copies (fun M1 g => ?_)
  have g1 : ∀ i, i < 22 → M1.1 172 i = v.1 i := fun i hi => by rw [g.1 i hi]; exact hc1.2.2.1 i hi
  have g3 : FrR SR SS1 (sI (sI M 169 0 0) 169 50 x) M1 := frR_sub g.2 (fun b _ hb => by unfold SR; omega) (fun i hi => hi.elim)
  have g2 : RR n v F M1 := rr_kr hc1 (kr_1 g3)
  refine ok_call (r_goesOn (d := 0) hc.1 ln172 (by omega) g2.2.1 g1 g2.2.2.2 (by omega)) (fun M2 h => ?_)
  obtain ⟨h1, h2, h3, h4, h5⟩ := h
  have e50 : M2.1 169 50 = x := by
    rw [h5.2.1 50 (by unfold SDr; omega)]
    rw [g.2.2.1 50 (fun q => q)]
    exact rdE rfl rfl
  have hFU : 2000 < FU := FU_big
  generalize FU = fu0 at hFU ⊢
  refine ok_loop d (fun fu k s => fX10_years_40 fu (nI d) (nI k) s) (fun k s => s.1 169 50 = (yrs F n v x k).2.1 ∧ s.1 169 30 = nI (yrs F n v x k).2.2 ∧ TrR n (yrs F n v x k).1 F M s) ?_ ?_ fu0 0 M2 (by omega) (by omega) ⟨e50, h2, h1, h4, h3, frR_trans hf0 (frR_trans hf1 (frR_trans g3 (frR_SR h5 (by omega))))⟩
  · intro fu k s hk hs ih
    obtain ⟨b1, b2, b3⟩ := hs
    obtain ⟨hwk, hle⟩ := wf_yrs (F := F) (x := x) hc.1 k
    have d4 := r_draw (M := s) (n := 4) (by omega) (by omega)
    rw [b1] at d4
    have dn : n ≠ 0 → fX10_draws (nI n) (sI s 169 50 (rnd (yrs F n v x k).2.1)) = some (nI (dv (rnd (rnd (yrs F n v x k).2.1)) n), sI (sI s 169 50 (rnd (yrs F n v x k).2.1)) 169 50 (rnd (rnd (yrs F n v x k).2.1))) := fun h => by
      have := r_draw (M := sI s 169 50 (rnd (yrs F n v x k).2.1)) (n := n) (by omega) (by omega)
      rw [rdE rfl rfl] at this
      exact this
    have d9 := r_draw (M := sI (sI s 169 50 (rnd (yrs F n v x k).2.1)) 169 50 (rnd (rnd (yrs F n v x k).2.1))) (n := 9) (by omega) (by omega)
    rw [rdE rfl rfl] at d9
    exact r_yearStep hwk hk hd b3 b2 d4 dn d9 (dv_lt _ (by omega)) (fun h => dv_lt _ h) (dv_lt _ (by omega)) (fun s' e1 e2 e3 => ih s' ⟨e1, e2, e3⟩)
  · intro fu s hs
    obtain ⟨b1, b2, b3⟩ := hs
    obtain ⟨hwk, hle⟩ := wf_yrs (F := F) (x := x) hc.1 d
    rw [e_X10_years_40]
    simp (disch := omega) only [↓reduceIte, ic_t, ic_f, not_true_eq_false, not_false_eq_true, ↓lt_v, rdR, rdE, rdS, leT, leTc, leTd, leF, leFc, leFd, ltT, ltTc, ltTd, ltF, ltFc, ltFd, eqT, eqTc, eqTd, eqF, eqFc, eqFd, m1T, m1F, m1T', m1F', inb_nI, ix_nI, inb_c, ix_c, nI_1, nI_pred, nI_m1, add_nIc, add_cnI, bd_v, reduceCtorEq, eqFcc, m1e0, m1e1, m1l0, m1g0, m2l0, m2g0, Int32.reduceLT, Int32.reduceLE, Int32.reduceAdd, Int32.reduceSub, Int32.reduceMul, eq_self, Bool.false_eq_true, b2]
    refine r_tell1 (kr_1 b3.2.2.2) (fun M3 k1 k2 k3 k4 => ?_)
    have e172 : ∀ i, i < 22 → M3.1 172 i = (yrs F n v x d).1.1 i := fun i hi => by rw [k3 172 (by omega)]; exact b3.1 i hi
    have e3 : M3.1 169 3 = nI n := by rw [k4 3 (by omega)]; exact b3.2.1
    have hsum := r_sumOf (f := 6) hn ln172 (by omega) e3 e172
    rw [show (6 : Int32) = nI 6 from rfl, hsum]
    simp (disch := omega) only [↓reduceIte, ic_t, ic_f, not_true_eq_false, not_false_eq_true, ↓lt_v, rdR, rdE, rdS, leT, leTc, leTd, leF, leFc, leFd, ltT, ltTc, ltTd, ltF, ltFc, ltFd, eqT, eqTc, eqTd, eqF, eqFc, eqFd, m1T, m1F, m1T', m1F', inb_nI, ix_nI, inb_c, ix_c, nI_1, nI_pred, nI_m1, add_nIc, add_cnI, bd_v, reduceCtorEq, eqFcc, m1e0, m1e1, m1l0, m1g0, m2l0, m2g0, Int32.reduceLT, Int32.reduceLE, Int32.reduceAdd, Int32.reduceSub, Int32.reduceMul, eq_self, Bool.false_eq_true]
    refine ok_call (r_enters (by simp) k1 k2) (fun M4 j => ?_)
    have e172' : ∀ i, i < 22 → M4.1 172 i = (yrs F n v x d).1.1 i := fun i hi => by rw [j.2.2.1 172 (by omega)]; exact e172 i hi
    have e3' : M4.1 169 3 = nI n := by rw [j.2.2.2 3 (by omega)]; exact e3
    by_cases h0 : n = 0
    · rw [if_pos h0]
      have := r_boatOff (x := 0) hwk ln172 e3' e172' (Or.inr (by rw [h0]; decide))
      simp (disch := omega) only [↓reduceIte, ic_t, ic_f, not_true_eq_false, not_false_eq_true, ↓lt_v, rdR, rdE, rdS, leT, leTc, leTd, leF, leFc, leFd, ltT, ltTc, ltTd, ltF, ltFc, ltFd, eqT, eqTc, eqTd, eqF, eqFc, eqFd, m1T, m1F, m1T', m1F', inb_nI, ix_nI, inb_c, ix_c, nI_1, nI_pred, nI_m1, add_nIc, add_cnI, bd_v, reduceCtorEq, eqFcc, m1e0, m1e1, m1l0, m1g0, m2l0, m2g0, Int32.reduceLT, Int32.reduceLE, Int32.reduceAdd, Int32.reduceSub, Int32.reduceMul, eq_self, Bool.false_eq_true, this]
      exact ok_some ⟨rfl, j.1, j.2.1⟩
    · rw [if_neg h0]
      have := r_boatOn (k := 0) hwk ln172 e3' e172' (by omega)
      rw [show (0 : Int32) = nI 0 from rfl, this]
      simp (disch := omega) only [↓reduceIte, ic_t, ic_f, not_true_eq_false, not_false_eq_true, ↓lt_v, rdR, rdE, rdS, leT, leTc, leTd, leF, leFc, leFd, ltT, ltTc, ltTd, ltF, ltFc, ltFd, eqT, eqTc, eqTd, eqF, eqFc, eqFd, m1T, m1F, m1T', m1F', inb_nI, ix_nI, inb_c, ix_c, nI_1, nI_pred, nI_m1, add_nIc, add_cnI, bd_v, reduceCtorEq, eqFcc, m1e0, m1e1, m1l0, m1g0, m2l0, m2g0, Int32.reduceLT, Int32.reduceLE, Int32.reduceAdd, Int32.reduceSub, Int32.reduceMul, eq_self, Bool.false_eq_true]
      exact ok_some ⟨rfl, j.1, j.2.1⟩
