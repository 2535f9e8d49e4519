/-! PURE: years -/
theorem any_nI (x : Int32) : ∃ q, q < 2 ^ 32 ∧ x = nI q := by
  refine ⟨x.toBitVec.toNat, x.toBitVec.isLt, ?_⟩
  apply Int32.toBitVec_inj.mp
  apply BitVec.eq_of_toNat_eq
  show _ = (BitVec.ofNat 32 x.toBitVec.toNat).toNat
  rw [BitVec.toNat_ofNat, Nat.mod_eq_of_lt x.toBitVec.isLt]
def rnd (x : Int32) : Int32 := x * 1103515245 + 12345
/-- a draw of n by what stands behind it -/
def dv (z : Int32) (n : Nat) : Nat := ix ((z.toUInt32 >>> (Int32.toUInt32 16 &&& Int32.toUInt32 31)).toInt32) % n
theorem dv_lt (z : Int32) {n : Nat} (h : n ≠ 0) : dv z n < n := Nat.mod_lt _ (by omega)
theorem dv_eq (z : Int32) {n : Nat} (h0 : 0 < n) (hn : n < 100) : ((z.toUInt32 >>> (Int32.toUInt32 16 &&& Int32.toUInt32 31)).toInt32) - ((z.toUInt32 >>> (Int32.toUInt32 16 &&& Int32.toUInt32 31)).toInt32) / nI n * nI n = nI (dv z n) := by
  obtain ⟨q, hq, e⟩ := any_nI z
  have e2 := pk_ushrN hq 16 16 (by decide)
  have hlt : q / 2 ^ 16 < 65536 := Nat.div_lt_of_lt_mul (by omega)
  unfold dv
  rw [e, e2, ix_nI (by omega), pk_rem (by omega) h0 (by omega)]
theorem c_draw {M : Mem} {n : Nat} (h0 : 0 < n) (hn : n < 100) : fX0_draw (nI n) M = some (nI (dv (rnd (M.1 141 0)) n), sI M 141 0 (rnd (M.1 141 0))) := by
  rw [e_X0_draw]
  simp (disch := omega) only [↓reduceIte, ic_t, ic_f, not_true_eq_false, not_false_eq_true, ↓lt_v, rdR, rdE, rdS, leT, leTc, leTd, leF, leFc, leFd, ltT, ltTc, ltTd, ltF, ltFc, ltFd, eqT, eqTc, eqTd, eqF, eqFc, eqFd, m1T, m1F, m1T', m1F', inb_nI, ix_nI, inb_c, ix_c, nI_1, nI_pred, nI_m1, add_nIc, add_cnI, bd_v, reduceCtorEq, eqFcc, m1e0, m1e1, m1l0, m1g0, m2l0, m2g0, Int32.reduceLT, Int32.reduceLE, Int32.reduceAdd, Int32.reduceSub, Int32.reduceMul, eq_self, Bool.false_eq_true]
  rw [show M.1 141 0 * 1103515245 + 12345 = rnd (M.1 141 0) from rfl, dv_eq _ h0 hn]
theorem r_draw {M : Mem} {n : Nat} (h0 : 0 < n) (hn : n < 100) : fX10_draws (nI n) M = some (nI (dv (rnd (M.1 169 50)) n), sI M 169 50 (rnd (M.1 169 50))) := by
  rw [e_X10_draws]
  simp (disch := omega) only [↓reduceIte, ic_t, ic_f, not_true_eq_false, not_false_eq_true, ↓lt_v, rdR, rdE, rdS, leT, leTc, leTd, leF, leFc, leFd, ltT, ltTc, ltTd, ltF, ltFc, ltFd, eqT, eqTc, eqTd, eqF, eqFc, eqFd, m1T, m1F, m1T', m1F', inb_nI, ix_nI, inb_c, ix_c, nI_1, nI_pred, nI_m1, add_nIc, add_cnI, bd_v, reduceCtorEq, eqFcc, m1e0, m1e1, m1l0, m1g0, m2l0, m2g0, Int32.reduceLT, Int32.reduceLE, Int32.reduceAdd, Int32.reduceSub, Int32.reduceMul, eq_self, Bool.false_eq_true]
  rw [show M.1 169 50 * 1103515245 + 12345 = rnd (M.1 169 50) from rfl, dv_eq _ h0 hn]
theorem wf_place {n b : Nat} {v : VV} (hw : WfV n v) (hb : b < n) : ix (v.1 (12 + b)) < n ∧ v.2 (ix (v.1 (12 + b))) = b := by
  have hn : n ≤ 6 := hw.1
  obtain ⟨k, hk, rfl⟩ := hw.2.2.1 b hb
  have := (hw.2.1 k hk).2
  rw [this, ix_nI (by omega)]
  exact ⟨hk, rfl⟩
/-- a turn: river, what stands behind the last draw, touches; a, b, c: draws -/
def yT (F : (Nat → Int32) → Int32) (n : Nat) (Y : VV × Int32 × Nat) (a b c : Nat) (r1 r2 r3 : Int32) : VV × Int32 × Nat :=
  if a < 2 then (day1 F n Y.1, r1, Y.2.2 + (TT F n Y.1).2.1) else if n = 0 then (Y.1, r1, Y.2.2) else if a = 2 then ((up1 Y.1.1 b (nI (1 + c)), Y.1.2), r3, Y.2.2) else (scV n (ix (Y.1.1 (12 + b))) Y.1, r2, Y.2.2)
def yS (F : (Nat → Int32) → Int32) (n : Nat) (Y : VV × Int32 × Nat) : VV × Int32 × Nat := yT F n Y (dv (rnd Y.2.1) 4) (dv (rnd (rnd Y.2.1)) n) (dv (rnd (rnd (rnd Y.2.1))) 9) (rnd Y.2.1) (rnd (rnd Y.2.1)) (rnd (rnd (rnd Y.2.1)))
def yrs (F : (Nat → Int32) → Int32) (n : Nat) (v : VV) (x : Int32) : Nat → VV × Int32 × Nat
  | 0 => (v, x, 0)
  | k + 1 => yS F n (yrs F n v x k)
theorem wf_yT {F : (Nat → Int32) → Int32} {n a b c : Nat} {Y : VV × Int32 × Nat} {r1 r2 r3 : Int32} (hw : WfV n Y.1) (hb : n ≠ 0 → b < n) : WfV n (yT F n Y a b c r1 r2 r3).1 ∧ (yT F n Y a b c r1 r2 r3).2.2 ≤ Y.2.2 + 3 := by
  have hm := m_TT (F := F) hw
  have hn : n ≤ 6 := hw.1
  unfold yT
  split
  · exact ⟨wf_day1 hw, by show Y.2.2 + _ ≤ _; omega⟩
  · split
    · exact ⟨hw, by show Y.2.2 ≤ _; omega⟩
    · rename_i h0
      have := hb h0
      split
      · exact ⟨wfV_lo hw (by omega), by show Y.2.2 ≤ _; omega⟩
      · exact ⟨wf_sc hw (wf_place hw this).1, by show Y.2.2 ≤ _; omega⟩
theorem wf_yrs {F : (Nat → Int32) → Int32} {n : Nat} {v : VV} {x : Int32} (hw : WfV n v) : ∀ k, WfV n (yrs F n v x k).1 ∧ (yrs F n v x k).2.2 ≤ 3 * k
  | 0 => ⟨hw, Nat.le_refl _⟩
  | k + 1 => by
    have ih := wf_yrs (F := F) (x := x) hw k
    have := wf_yT (F := F) (a := dv (rnd (yrs F n v x k).2.1) 4) (b := dv (rnd (rnd (yrs F n v x k).2.1)) n) (c := dv (rnd (rnd (rnd (yrs F n v x k).2.1))) 9) (r1 := rnd (yrs F n v x k).2.1) (r2 := rnd (rnd (yrs F n v x k).2.1)) (r3 := rnd (rnd (rnd (yrs F n v x k).2.1))) ih.1 (fun h => dv_lt _ h)
    exact ⟨this.1, Nat.le_trans this.2 (by omega)⟩
theorem c_turn' {M s : Mem} {n R a b c : Nat} {r1 r2 r3 : Int32} {F : (Nat → Int32) → Int32} {Y : VV × Int32 × Nat} (hR : R = 146 ∨ R = 150) (hw : WfV n Y.1) (b3 : TrC n Y.1 F R M s)
    (d4 : fX0_draw (nI 4) s = some (nI a, sI s 141 0 r1)) (dn : n ≠ 0 → fX0_draw (nI n) (sI s 141 0 r1) = some (nI b, sI (sI s 141 0 r1) 141 0 r2)) (d9 : fX0_draw (nI 9) (sI (sI s 141 0 r1) 141 0 r2) = some (nI c, sI (sI (sI s 141 0 r1) 141 0 r2) 141 0 r3)) (l4 : a < 4) (bl : n ≠ 0 → b < n) (cl : c < 9) :
    Ok (fX9_drawnTurn s) (fun q => q.1 = nI ((yT F n Y a b c r1 r2 r3).2.2 - Y.2.2) ∧ Y.2.2 ≤ (yT F n Y a b c r1 r2 r3).2.2 ∧ q.2.1 141 0 = (yT F n Y a b c r1 r2 r3).2.1 ∧ TrC n (yT F n Y a b c r1 r2 r3).1 F R M q.2) := by
  have hn : n ≤ 6 := hw.1
  obtain ⟨t1, t2, t3, t4⟩ := b3
  have nth : ∀ (N : Mem) (z : Int32), TrC n Y.1 F R M N → TrC n Y.1 F R M (sI N 141 0 z) := fun N z h => ⟨rivC_fr h.1 (fun a h1 h2 => row_n (by omega)), ruC_fr h.2.1 (row_n (by omega)) (row_n (by omega)), h.2.2.1, fr_trans h.2.2.2 (fr_sI (by unfold SC; omega))⟩
  have tr1 := nth s r1 ⟨t1, t2, t3, t4⟩
  rw [e_X9_drawnTurn, show (4 : Int32) = nI 4 from rfl, show (9 : Int32) = nI 9 from rfl, d4]
  have n16 : (sI s 141 0 r1).1 16 0 = nI n := tr1.1.1
  unfold yT
  by_cases h2 : a < 2
  · simp (disch := omega) only [↓reduceIte, ic_t, ic_f, not_true_eq_false, not_false_eq_true, ↓lt_v, rdR, rdE, rdS, leT, leTc, leTd, leF, leFc, leFd, ltT, ltTc, ltTd, ltF, ltFc, ltFd, eqT, eqTc, eqTd, eqF, eqFc, eqFd, m1T, m1F, m1T', m1F', inb_nI, ix_nI, inb_c, ix_c, nI_1, nI_pred, nI_m1, add_nIc, add_cnI, bd_v, reduceCtorEq, eqFcc, m1e0, m1e1, m1l0, m1g0, m2l0, m2g0, Int32.reduceLT, Int32.reduceLE, Int32.reduceAdd, Int32.reduceSub, Int32.reduceMul, eq_self, Bool.false_eq_true, bd_v]
    rw [if_pos h2]
    obtain ⟨u1, u2, u3, u4⟩ := tr1
    rw [u3]
    refine ok_call (c_pass1 hw (by omega) hR u1 u2) (fun q g => ok_some ⟨?_, ?_, ?_, g.2.1, g.2.2.2.1, by rw [g.2.2.2.2.2]; exact u3, fr_trans u4 (fr_SC g.2.2.2.2 (by omega) hR)⟩)
    · show q.1 = nI (Y.2.2 + _ - Y.2.2)
      rw [g.1]; congr 1; omega
    · show Y.2.2 ≤ Y.2.2 + _; omega
    · show q.2.1 141 0 = r1
      rw [g.2.2.2.2.1 141 (by unfold PDy; omega)]
      exact rdE rfl rfl
  · by_cases h0 : n = 0
    · have n16' : s.1 16 0 = nI n := t1.1
      simp (disch := omega) only [↓reduceIte, ic_t, ic_f, not_true_eq_false, not_false_eq_true, ↓lt_v, rdR, rdE, rdS, leT, leTc, leTd, leF, leFc, leFd, ltT, ltTc, ltTd, ltF, ltFc, ltFd, eqT, eqTc, eqTd, eqF, eqFc, eqFd, m1T, m1F, m1T', m1F', inb_nI, ix_nI, inb_c, ix_c, nI_1, nI_pred, nI_m1, add_nIc, add_cnI, bd_v, reduceCtorEq, eqFcc, m1e0, m1e1, m1l0, m1g0, m2l0, m2g0, Int32.reduceLT, Int32.reduceLE, Int32.reduceAdd, Int32.reduceSub, Int32.reduceMul, eq_self, Bool.false_eq_true, bd_v, n16']
      rw [if_neg h2, if_pos h0]
      refine ok_some ⟨?_, Nat.le_refl _, rdE rfl rfl, tr1⟩
      show (0 : Int32) = nI (Y.2.2 - Y.2.2)
      rw [Nat.sub_self]; rfl
    · have n16' : s.1 16 0 = nI n := t1.1
      have hb := bl h0
      have dn := dn h0
      have tr2 := nth _ r2 tr1
      rw [if_neg h2, if_neg h0]
      by_cases h3 : a = 2
      · rw [if_pos h3]
        simp (disch := omega) only [↓reduceIte, ic_t, ic_f, not_true_eq_false, not_false_eq_true, ↓lt_v, rdR, rdE, rdS, leT, leTc, leTd, leF, leFc, leFd, ltT, ltTc, ltTd, ltF, ltFc, ltFd, eqT, eqTc, eqTd, eqF, eqFc, eqFd, m1T, m1F, m1T', m1F', inb_nI, ix_nI, inb_c, ix_c, nI_1, nI_pred, nI_m1, add_nIc, add_cnI, bd_v, reduceCtorEq, eqFcc, m1e0, m1e1, m1l0, m1g0, m2l0, m2g0, Int32.reduceLT, Int32.reduceLE, Int32.reduceAdd, Int32.reduceSub, Int32.reduceMul, eq_self, Bool.false_eq_true, bd_v, n16', dn, d9]
        have tr3 := nth _ r3 tr2
        obtain ⟨u1, u2, u3, u4⟩ := tr3
        refine ok_call (c_pace hn u1 hb (x := nI (c + 1)) (by rw [show (1 : Int32) = nI 1 from rfl]; exact nI_nlt (by omega) (by omega)) (by rw [show (9 : Int32) = nI 9 from rfl]; exact nI_le (by omega) (by omega))) (fun q g => ok_some ⟨?_, Nat.le_refl _, ?_, ?_⟩)
        · show (0 : Int32) = nI (Y.2.2 - Y.2.2)
          rw [Nat.sub_self]; rfl
        · show q.2.1 141 0 = r3
          rw [g.2.2.1 141 (by omega)]
          exact rdE rfl rfl
        · rw [Nat.add_comm 1 c]
          exact ⟨g.2.1, ruC_fr u2 (g.2.2.1 R (by omega)) (g.2.2.1 (R + 1) (by omega)), by rw [g.2.2.2]; exact u3, fr_trans u4 (fr_sub g.2.2 (fun x hx => by unfold SC; omega))⟩
      · rw [if_neg h3]
        simp (disch := omega) only [↓reduceIte, ic_t, ic_f, not_true_eq_false, not_false_eq_true, ↓lt_v, rdR, rdE, rdS, leT, leTc, leTd, leF, leFc, leFd, ltT, ltTc, ltTd, ltF, ltFc, ltFd, eqT, eqTc, eqTd, eqF, eqFc, eqFd, m1T, m1F, m1T', m1F', inb_nI, ix_nI, inb_c, ix_c, nI_1, nI_pred, nI_m1, add_nIc, add_cnI, bd_v, reduceCtorEq, eqFcc, m1e0, m1e1, m1l0, m1g0, m2l0, m2g0, Int32.reduceLT, Int32.reduceLE, Int32.reduceAdd, Int32.reduceSub, Int32.reduceMul, eq_self, Bool.false_eq_true, bd_v, n16', dn]
        obtain ⟨u1, u2, u3, u4⟩ := tr2
        obtain ⟨p1, p2⟩ := wf_place hw hb
        have := c_foot hw u1 p1
        rw [p2] at this
        refine ok_call this (fun q g => ok_some ⟨?_, Nat.le_refl _, ?_, ?_⟩)
        · show (0 : Int32) = nI (Y.2.2 - Y.2.2)
          rw [Nat.sub_self]; rfl
        · show q.2.1 141 0 = r2
          rw [g.2.2.1 141 (by omega)]
          exact rdE rfl rfl
        · exact ⟨g.2.1, ruC_fr u2 (g.2.2.1 R (by omega)) (g.2.2.1 (R + 1) (by omega)), by rw [g.2.2.2]; exact u3, fr_trans u4 (fr_sub g.2.2 (fun x hx => by unfold SC; omega))⟩
theorem c_turn {M s : Mem} {n R : Nat} {F : (Nat → Int32) → Int32} {Y : VV × Int32 × Nat} (hR : R = 146 ∨ R = 150) (hw : WfV n Y.1) (b2 : s.1 141 0 = Y.2.1) (b3 : TrC n Y.1 F R M s) : Ok (fX9_drawnTurn s) (fun q => q.1 = nI ((yS F n Y).2.2 - Y.2.2) ∧ Y.2.2 ≤ (yS F n Y).2.2 ∧ q.2.1 141 0 = (yS F n Y).2.1 ∧ TrC n (yS F n Y).1 F R M q.2) := by
  have hn : n ≤ 6 := hw.1
  have d4 := c_draw (M := s) (n := 4) (by omega) (by omega)
  rw [b2] at d4
  have dn : n ≠ 0 → fX0_draw (nI n) (sI s 141 0 (rnd Y.2.1)) = some (nI (dv (rnd (rnd Y.2.1)) n), sI (sI s 141 0 (rnd Y.2.1)) 141 0 (rnd (rnd Y.2.1))) := fun h => by
    have := c_draw (M := sI s 141 0 (rnd Y.2.1)) (n := n) (by omega) (by omega)
    rw [rdE rfl rfl] at this
    exact this
  have d9 : fX0_draw (nI 9) (sI (sI s 141 0 (rnd Y.2.1)) 141 0 (rnd (rnd Y.2.1))) = some (nI (dv (rnd (rnd (rnd Y.2.1))) 9), sI (sI (sI s 141 0 (rnd Y.2.1)) 141 0 (rnd (rnd Y.2.1))) 141 0 (rnd (rnd (rnd Y.2.1)))) := by
    have := c_draw (M := sI (sI s 141 0 (rnd Y.2.1)) 141 0 (rnd (rnd Y.2.1))) (n := 9) (by omega) (by omega)
    rw [rdE rfl rfl] at this
    exact this
  unfold yS
  exact c_turn' hR hw b3 d4 dn d9 (dv_lt _ (by omega)) (fun h => dv_lt _ h) (dv_lt _ (by omega))
theorem c_years {M : Mem} {n R d : Nat} {v : VV} {F : (Nat → Int32) → Int32} {x : Int32} (hc : CR n v F R M) (hd1 : 1 ≤ d) (hd : d ≤ 60) :
    Ok (fX9_years x (nI d) M) (QC (if n = 0 then -1 else nI ((yrs F n v x d).1.2 0)) (some [(nI (yrs F n v x d).2.2).toInt64, (sumI (fun i => (yrs F n v x d).1.1 (6 + i)) n).toInt64]) M) := by
  have hn : n ≤ 6 := hc.1.1
  have hR := hc.2.2.2.2
  rw [e_X9_years]
  simp (disch := omega) only [↓reduceIte, ic_t, ic_f, not_true_eq_false, not_false_eq_true, ↓lt_v, rdR, rdE, rdS, leT, leTc, leTd, leF, leFc, leFd, ltT, ltTc, ltTd, ltF, ltFc, ltFd, eqT, eqTc, eqTd, eqF, eqFc, eqFd, m1T, m1F, m1T', m1F', inb_nI, ix_nI, inb_c, ix_c, nI_1, nI_pred, nI_m1, add_nIc, add_cnI, bd_v, reduceCtorEq, eqFcc, m1e0, m1e1, m1l0, m1g0, m2l0, m2g0, Int32.reduceLT, Int32.reduceLE, Int32.reduceAdd, Int32.reduceSub, Int32.reduceMul, eq_self, Bool.false_eq_true]
  refine c_trial hc (fun M1 g1 g2 g3 g4 => ?_)
  try simp (disch := omega) only [↓reduceIte, ic_t, ic_f, not_true_eq_false, not_false_eq_true, ↓lt_v, rdR, rdE, rdS, leT, leTc, leTd, leF, leFc, leFd, ltT, ltTc, ltTd, ltF, ltFc, ltFd, eqT, eqTc, eqTd, eqF, eqFc, eqFd, m1T, m1F, m1T', m1F', inb_nI, ix_nI, inb_c, ix_c, nI_1, nI_pred, nI_m1, add_nIc, add_cnI, bd_v, reduceCtorEq, eqFcc, m1e0, m1e1, m1l0, m1g0, m2l0, m2g0, Int32.reduceLT, Int32.reduceLE, Int32.reduceAdd, Int32.reduceSub, Int32.reduceMul, eq_self, Bool.false_eq_true]
  have tr0 : TrC n v F R M (sI M1 141 0 x) := ⟨rivC_fr g1 (fun a h1 h2 => row_n (by omega)), ruC_fr g2.2.2.1 (row_n (by omega)) (row_n (by omega)), g3, fr_trans g4 (fr_sI (by unfold SC; omega))⟩
  have hFU : 2000 < FU := FU_big
  generalize FU = fu0 at hFU ⊢
  refine ok_loop d (fun fu k (s : Int32 × Mem) => fX9_years_38 fu (nI d) s.1 (nI k) s.2) (fun k s => s.1 = nI (yrs F n v x k).2.2 ∧ s.2.1 141 0 = (yrs F n v x k).2.1 ∧ TrC n (yrs F n v x k).1 F R M s.2) ?_ ?_ fu0 0 (0, sI M1 141 0 x) (by omega) (by omega) ⟨rfl, rdE rfl rfl, tr0⟩
  · intro fu k s hk hs ih
    obtain ⟨b1, b2, b3⟩ := hs
    obtain ⟨hwk, hle⟩ := wf_yrs (F := F) (x := x) hc.1 k
    have hst : yrs F n v x (k + 1) = yS F n (yrs F n v x k) := rfl
    rw [e_X9_years_38]
    simp (disch := omega) only [↓reduceIte, ic_t, ic_f, not_true_eq_false, not_false_eq_true, ↓lt_v, rdR, rdE, rdS, leT, leTc, leTd, leF, leFc, leFd, ltT, ltTc, ltTd, ltF, ltFc, ltFd, eqT, eqTc, eqTd, eqF, eqFc, eqFd, m1T, m1F, m1T', m1F', inb_nI, ix_nI, inb_c, ix_c, nI_1, nI_pred, nI_m1, add_nIc, add_cnI, bd_v, reduceCtorEq, eqFcc, m1e0, m1e1, m1l0, m1g0, m2l0, m2g0, Int32.reduceLT, Int32.reduceLE, Int32.reduceAdd, Int32.reduceSub, Int32.reduceMul, eq_self, Bool.false_eq_true, b1]
    refine ok_call (c_turn hR hwk b2 b3) (fun q g => ?_)
    rw [← hst] at g
    rw [g.1, nI_add]
    refine ih (_, q.2) ⟨?_, g.2.2.1, g.2.2.2⟩
    show nI _ = nI _
    congr 1
    have := g.2.1
    omega
  · intro fu s hs
    obtain ⟨b1, b2, b3⟩ := hs
    obtain ⟨hwk, hle⟩ := wf_yrs (F := F) (x := x) hc.1 d
    have hsum := c_sumT hn b3.1
    rw [e_X9_years_38]
    simp (disch := omega) only [↓reduceIte, ic_t, ic_f, not_true_eq_false, not_false_eq_true, ↓lt_v, rdR, rdE, rdS, leT, leTc, leTd, leF, leFc, leFd, ltT, ltTc, ltTd, ltF, ltFc, ltFd, eqT, eqTc, eqTd, eqF, eqFc, eqFd, m1T, m1F, m1T', m1F', inb_nI, ix_nI, inb_c, ix_c, nI_1, nI_pred, nI_m1, add_nIc, add_cnI, bd_v, reduceCtorEq, eqFcc, m1e0, m1e1, m1l0, m1g0, m2l0, m2g0, Int32.reduceLT, Int32.reduceLE, Int32.reduceAdd, Int32.reduceSub, Int32.reduceMul, eq_self, Bool.false_eq_true, b1, hsum]
    refine ok_call (c_tellB (kc_fr b3.2.2.2)) (fun M2 k => ?_)
    have hv2 : RvC 16 n (yrs F n v x d).1 M2 := rivC_fr b3.1 (fun a h1 h2 => k.2.2.1 a (by omega))
    by_cases h0 : n = 0
    · rw [if_pos h0]
      have := c_boatOff (x := 0) hv2 (Or.inr (by rw [h0]; decide))
      simp (disch := omega) only [↓reduceIte, ic_t, ic_f, not_true_eq_false, not_false_eq_true, ↓lt_v, rdR, rdE, rdS, leT, leTc, leTd, leF, leFc, leFd, ltT, ltTc, ltTd, ltF, ltFc, ltFd, eqT, eqTc, eqTd, eqF, eqFc, eqFd, m1T, m1F, m1T', m1F', inb_nI, ix_nI, inb_c, ix_c, nI_1, nI_pred, nI_m1, add_nIc, add_cnI, bd_v, reduceCtorEq, eqFcc, m1e0, m1e1, m1l0, m1g0, m2l0, m2g0, Int32.reduceLT, Int32.reduceLE, Int32.reduceAdd, Int32.reduceSub, Int32.reduceMul, eq_self, Bool.false_eq_true, this]
      exact ok_some ⟨rfl, k.1, k.2.1⟩
    · rw [if_neg h0]
      have := c_boatOn (k := 0) hn hv2 (by omega)
      rw [show (0 : Int32) = nI 0 from rfl, this]
      simp (disch := omega) only [↓reduceIte, ic_t, ic_f, not_true_eq_false, not_false_eq_true, ↓lt_v, rdR, rdE, rdS, leT, leTc, leTd, leF, leFc, leFd, ltT, ltTc, ltTd, ltF, ltFc, ltFd, eqT, eqTc, eqTd, eqF, eqFc, eqFd, m1T, m1F, m1T', m1F', inb_nI, ix_nI, inb_c, ix_c, nI_1, nI_pred, nI_m1, add_nIc, add_cnI, bd_v, reduceCtorEq, eqFcc, m1e0, m1e1, m1l0, m1g0, m2l0, m2g0, Int32.reduceLT, Int32.reduceLE, Int32.reduceAdd, Int32.reduceSub, Int32.reduceMul, eq_self, Bool.false_eq_true]
      exact ok_some ⟨rfl, k.1, k.2.1⟩
theorem r_sumOf {M : Mem} {n a f : Nat} {w : Nat → Int32} (hn : n ≤ 6) (hl : ln a = 22) (hf : f ≤ 6) (h0 : M.1 169 3 = nI n) (hv : ∀ i, i < 22 → M.1 a i = w i) : fX10_sumOf a (nI f) M = some (sumI (fun i => w (f + i)) n, M) := by
  have : Ok (fX10_sumOf a (nI f) M) (fun q => q = (sumI (fun i => w (f + i)) n, M)) := by
    rw [e_X10_sumOf]
    have hFU : 2000 < FU := FU_big
    generalize FU = fu0 at hFU ⊢
    refine ok_loop n (fun fu k (s : Int32) => fX10_sumOf_5 fu a (nI f) s (nI k) M) (fun k (s : Int32) => s = sumI (fun i => w (f + i)) k) ?_ ?_ fu0 0 0 (by omega) (by omega) rfl
    · intro fu k s hk hs ih
      rw [e_X10_sumOf_5]
      simp (disch := omega) only [↓reduceIte, ic_t, ic_f, not_true_eq_false, not_false_eq_true, ↓lt_v, rdR, rdE, rdS, leT, leTc, leTd, leF, leFc, leFd, ltT, ltTc, ltTd, ltF, ltFc, ltFd, eqT, eqTc, eqTd, eqF, eqFc, eqFd, m1T, m1F, m1T', m1F', inb_nI, ix_nI, inb_c, ix_c, nI_1, nI_pred, nI_m1, add_nIc, add_cnI, bd_v, reduceCtorEq, eqFcc, m1e0, m1e1, m1l0, m1g0, m2l0, m2g0, Int32.reduceLT, Int32.reduceLE, Int32.reduceAdd, Int32.reduceSub, Int32.reduceMul, eq_self, Bool.false_eq_true, h0, hl, nI_add, hv, hs]
      exact ih _ rfl
    · intro fu s hs
      rw [e_X10_sumOf_5]
      simp (disch := omega) only [↓reduceIte, ic_t, ic_f, not_true_eq_false, not_false_eq_true, ↓lt_v, rdR, rdE, rdS, leT, leTc, leTd, leF, leFc, leFd, ltT, ltTc, ltTd, ltF, ltFc, ltFd, eqT, eqTc, eqTd, eqF, eqFc, eqFd, m1T, m1F, m1T', m1F', inb_nI, ix_nI, inb_c, ix_c, nI_1, nI_pred, nI_m1, add_nIc, add_cnI, bd_v, reduceCtorEq, eqFcc, m1e0, m1e1, m1l0, m1g0, m2l0, m2g0, Int32.reduceLT, Int32.reduceLE, Int32.reduceAdd, Int32.reduceSub, Int32.reduceMul, eq_self, Bool.false_eq_true, h0, hs]
      exact ok_some rfl
  obtain ⟨q, h1, h2⟩ := this
  rw [h1, h2]
theorem r_boatOff {M : Mem} {n a : Nat} {w : Nat → Int32} {o : Nat → Nat} {x : Int32} (hw : Wf n w o) (hl : ln a = 22) (h0 : M.1 169 3 = nI n) (hv : ∀ i, i < 22 → M.1 a i = w i) (hx : x < 0 ∨ nI n ≤ x) : fX10_boatOn a x M = some (-1, M) := by
  have hn := hw.1
  have : Ok (fX10_boatOn a x M) (fun q => q = (-1, M)) := by
    rw [e_X10_boatOn]
    have hFU : 2000 < FU := FU_big
    generalize FU = fu0 at hFU ⊢
    refine ok_loop n (fun fu j (s : Mem) => fX10_boatOn_2 fu a x (nI j) s) (fun j s => s = M) ?_ ?_ fu0 0 M (by omega) (by omega) rfl
    · intro fu j s hj hs ih
      subst hs
      obtain ⟨i, hi, rfl⟩ := hw.2.2.1 j (by omega)
      have hwi := (hw.2.1 i hi).2
      have hne : ¬ nI i = x := fun q => by
        subst q
        rcases hx with h | h
        · exact nI_pos (by omega) h
        · rw [le_nI (by omega) (by omega)] at h; omega
      rw [e_X10_boatOn_2]
      simp (disch := omega) only [↓reduceIte, ic_t, ic_f, not_true_eq_false, not_false_eq_true, ↓lt_v, rdR, rdE, rdS, leT, leTc, leTd, leF, leFc, leFd, ltT, ltTc, ltTd, ltF, ltFc, ltFd, eqT, eqTc, eqTd, eqF, eqFc, eqFd, m1T, m1F, m1T', m1F', inb_nI, ix_nI, inb_c, ix_c, nI_1, nI_pred, nI_m1, add_nIc, add_cnI, bd_v, reduceCtorEq, eqFcc, m1e0, m1e1, m1l0, m1g0, m2l0, m2g0, Int32.reduceLT, Int32.reduceLE, Int32.reduceAdd, Int32.reduceSub, Int32.reduceMul, eq_self, Bool.false_eq_true, h0, hl, hv, hwi, eq_false hne]
      exact ih _ rfl
    · intro fu s hs
      subst hs
      rw [e_X10_boatOn_2]
      simp (disch := omega) only [↓reduceIte, ic_t, ic_f, not_true_eq_false, not_false_eq_true, ↓lt_v, rdR, rdE, rdS, leT, leTc, leTd, leF, leFc, leFd, ltT, ltTc, ltTd, ltF, ltFc, ltFd, eqT, eqTc, eqTd, eqF, eqFc, eqFd, m1T, m1F, m1T', m1F', inb_nI, ix_nI, inb_c, ix_c, nI_1, nI_pred, nI_m1, add_nIc, add_cnI, bd_v, reduceCtorEq, eqFcc, m1e0, m1e1, m1l0, m1g0, m2l0, m2g0, Int32.reduceLT, Int32.reduceLE, Int32.reduceAdd, Int32.reduceSub, Int32.reduceMul, eq_self, Bool.false_eq_true, h0]
      exact ok_some rfl
  obtain ⟨q, h1, h2⟩ := this
  rw [h1, h2]
