/-! PURE: head, bumps, blades -/
theorem nx_none {G : Nat → Bool} {m : Nat} : ∀ d, d ≤ m → (∀ j, m - d ≤ j → j < m → G j = false) → nx G m d = 0
  | 0, _, _ => rfl
  | d + 1, hd, h => by
    unfold nx
    rw [h (m - (d + 1)) (by omega) (by omega)]
    simp only [Bool.false_eq_true, if_false]
    exact nx_none d (by omega) (fun j h1 h2 => h j (by omega) h2)
theorem nx_first {G : Nat → Bool} {m k : Nat} (hk : k < m) (hg : G k = true) : ∀ d, d ≤ m → m - d ≤ k → (∀ j, m - d ≤ j → j < k → G j = false) → nx G m d = k + 1
  | 0, _, h1, _ => absurd hk (by omega)
  | d + 1, hd, h1, h => by
    unfold nx
    by_cases e : m - (d + 1) = k
    · rw [e, hg]
      simp
    · rw [h (m - (d + 1)) (by omega) (by omega)]
      simp only [Bool.false_eq_true, if_false]
      exact nx_first hk hg d (by omega) (by omega) (fun j h1 h2 => h j (by omega) h2)
theorem nx0 {G : Nat → Bool} {m : Nat} (h : ∀ j, j < m → G j = false) : nx G m m = 0 := nx_none m (Nat.le_refl _) (fun j _ h2 => h j h2)
theorem nx1 {G : Nat → Bool} {m k : Nat} (hk : k < m) (hg : G k = true) (h : ∀ j, j < k → G j = false) : nx G m m = k + 1 := nx_first hk hg m (Nat.le_refl _) (by omega) (fun j _ h2 => h j h2)
theorem c_pass1 {M : Mem} {n r R : Nat} {v : VV} {F : (Nat → Int32) → Int32} (hw : WfV n v) (hr : r + 4 < 108 ∨ 153 < r) (hR : R = 146 ∨ R = 150) (hv : RvC r n v M) (hu : RuC R F M) :
    Ok (fX9_passDays r R 1 M) (fun q => q.1 = nI (TT F n v).2.1 ∧ RvC r n (day1 F n v) q.2 ∧ (∃ L, RcC n L (TT F n v) q.2) ∧ RuC R F q.2 ∧ Fr (PDy r R) M q.2) := by
  refine ok_mono (c_pass (d := 1) hw hr hR hv hu (by omega)) (fun q h => ⟨?_, h.2.1, h.2.2.1 0 rfl, h.2.2.2.1, h.2.2.2.2⟩)
  rw [h.1]
  show nI (0 + (TT F n v).2.1) = _
  rw [Nat.zero_add]
/-- the trial river, days later -/
def TrC (n : Nat) (v : VV) (F : (Nat → Int32) → Int32) (R : Nat) (M s : Mem) : Prop := RvC 16 n v s ∧ RuC R F s ∧ s.2.2 1 17 = R ∧ Fr SC M s
theorem trC_day {M s : Mem} {n R : Nat} {v : VV} {F : (Nat → Int32) → Int32} {α : Type} {f : Int32 × Mem → Option α} {Q : α → Prop} (hw : WfV n v) (hR : R = 146 ∨ R = 150) (h : TrC n v F R M s)
    (k : ∀ q, q.1 = nI (TT F n v).2.1 → TrC n (day1 F n v) F R M q.2 → (∃ L, RcC n L (TT F n v) q.2) → Ok (f q) Q) : Ok ((fX9_passDays 16 (s.2.2 1 17) 1 s).bind f) Q := by
  obtain ⟨h1, h2, h3, h4⟩ := h
  rw [h3]
  refine ok_call (c_pass1 hw (by omega) hR h1 h2) (fun q g => k q g.1 ⟨g.2.1, g.2.2.2.1, ?_, fr_trans h4 (fr_SC g.2.2.2.2 (by omega) hR)⟩ g.2.2.1)
  rw [g.2.2.2.2.2]
  exact h3
def TrR (n : Nat) (v : VV) (F : (Nat → Int32) → Int32) (M s : Mem) : Prop := (∀ i, i < 22 → s.1 172 i = v.1 i) ∧ s.1 169 3 = nI n ∧ RuR F s ∧ FrR SR SS1 M s
theorem trR_day {M s : Mem} {n : Nat} {v : VV} {F : (Nat → Int32) → Int32} {α : Type} {f : Mem → Option α} {Q : α → Prop} (hw : WfV n v) (h : TrR n v F M s)
    (k : ∀ q, TrR n (day1 F n v) F M q → (∃ L, RcR n v.2 L (TT F n v) q) → Ok (f q) Q) : Ok ((fX10_dayGoes 172 s).bind f) Q := by
  obtain ⟨h1, h2, h3, h4⟩ := h
  refine ok_call (r_day hw ln172 (by omega) h2 h1 h3) (fun q g => k q ⟨g.1, ?_, g.2.2.2.1, frR_trans h4 (frR_SR g.2.2.2.2 (by omega))⟩ g.2.1)
  rw [g.2.2.2.2.2.1 3 (by unfold SDr; omega)]
  exact h2
theorem frR_0 {M M' : Mem} (h : FrR SR SS1 (sI M 169 0 0) M') : FrR SR SS1 M M' := frR_trans (frR_sI (by omega) (by unfold SS1 SS; omega)) h
def hdq (F : (Nat → Int32) → Int32) (n : Nat) (v : VV) (b : Nat) : Nat := nx (fun k => decide ((days F n k v).1 (12 + b) = 0)) 61 61
def fm (F : (Nat → Int32) → Int32) (n : Nat) (v : VV) (k : Nat) : Int32 := if k = 0 then -1 else nI ((days F n (k - 1) v).2 0)
theorem c_head {M : Mem} {n R b : Nat} {v : VV} {F : (Nat → Int32) → Int32} (hc : CR n v F R M) (hb : b < n) :
    Ok (fX9_head (nI b) M) (QC (if hdq F n v b = 0 then -2 else nI (hdq F n v b - 1)) (if hdq F n v b = 0 then none else some [(fm F n v (hdq F n v b - 1)).toInt64]) M) := by
  have hn : n ≤ 6 := hc.1.1
  have hh := has_in hc.2.1.1 hn hb
  rw [e_X9_head]
  simp (disch := omega) only [↓reduceIte, ic_t, ic_f, not_true_eq_false, not_false_eq_true, ↓lt_v, rdR, rdE, rdS, leT, leTc, leTd, leF, leFc, leFd, ltT, ltTc, ltTd, ltF, ltFc, ltFd, eqT, eqTc, eqTd, eqF, eqFc, eqFd, m1T, m1F, m1T', m1F', inb_nI, ix_nI, inb_c, ix_c, nI_1, nI_pred, nI_m1, add_nIc, add_cnI, bd_v, reduceCtorEq, eqFcc, m1e0, m1e1, m1l0, m1g0, m2l0, m2g0, Int32.reduceLT, Int32.reduceLE, Int32.reduceAdd, Int32.reduceSub, Int32.reduceMul, eq_self, Bool.false_eq_true, hh]
  refine c_trial hc (fun M1 g1 g2 g3 g4 => ?_)
  have hFU : 2000 < FU := FU_big
  generalize FU = fu0 at hFU ⊢
  refine ok_loop 61 (fun fu k (s : Int32 × Mem) => fX9_head_28 fu (nI b) s.1 (nI k) s.2) (fun k s => s.1 = fm F n v k ∧ (∀ j, j < k → decide ((days F n j v).1 (12 + b) = 0) = false) ∧ TrC n (days F n k v) F R M s.2) ?_ ?_ fu0 0 (-1, M1) (by omega) (by omega) ⟨rfl, fun j hj => absurd hj (Nat.not_lt_zero _), g1, g2.2.2.1, g3, g4⟩
  · intro fu k s hk hs ih
    obtain ⟨b1, b2, b3⟩ := hs
    have hp := b3.1.2.2.2.1 b hb
    rw [e_X9_head_28]
    simp (disch := omega) only [↓reduceIte, ic_t, ic_f, not_true_eq_false, not_false_eq_true, ↓lt_v, rdR, rdE, rdS, leT, leTc, leTd, leF, leFc, leFd, ltT, ltTc, ltTd, ltF, ltFc, ltFd, eqT, eqTc, eqTd, eqF, eqFc, eqFd, m1T, m1F, m1T', m1F', inb_nI, ix_nI, inb_c, ix_c, nI_1, nI_pred, nI_m1, add_nIc, add_cnI, bd_v, reduceCtorEq, eqFcc, m1e0, m1e1, m1l0, m1g0, m2l0, m2g0, Int32.reduceLT, Int32.reduceLE, Int32.reduceAdd, Int32.reduceSub, Int32.reduceMul, eq_self, Bool.false_eq_true, hp]
    by_cases h0 : (days F n k v).1 (12 + b) = 0
    · rw [ic_pos h0]
      have e : hdq F n v b = k + 1 := nx1 hk (decide_eq_true h0) b2
      rw [e]
      refine ok_call (c_tell (kc_fr b3.2.2.2)) (fun M2 q => ok_some ⟨?_, q.1, ?_⟩)
      · simp
      · rw [if_neg (Nat.succ_ne_zero k), Nat.add_sub_cancel, ← b1]; exact q.2.1
    · rw [ic_neg h0]
      have hbo := c_boatOn (k := 0) hn b3.1 (by omega)
      rw [show (0 : Int32) = nI 0 from rfl, hbo]
      simp (disch := omega) only [↓reduceIte, ic_t, ic_f, not_true_eq_false, not_false_eq_true, ↓lt_v, rdR, rdE, rdS, leT, leTc, leTd, leF, leFc, leFd, ltT, ltTc, ltTd, ltF, ltFc, ltFd, eqT, eqTc, eqTd, eqF, eqFc, eqFd, m1T, m1F, m1T', m1F', inb_nI, ix_nI, inb_c, ix_c, nI_1, nI_pred, nI_m1, add_nIc, add_cnI, bd_v, reduceCtorEq, eqFcc, m1e0, m1e1, m1l0, m1g0, m2l0, m2g0, Int32.reduceLT, Int32.reduceLE, Int32.reduceAdd, Int32.reduceSub, Int32.reduceMul, eq_self, Bool.false_eq_true]
      refine trC_day (wf_days hc.1 k) hc.2.2.2.2 b3 (fun q q1 q2 q3 => ?_)
      refine ih (nI ((days F n k v).2 0), q.2) ⟨rfl, fun j hj => ?_, q2⟩
      by_cases e : j = k
      · subst e; exact decide_eq_false h0
      · exact b2 j (by omega)
  · intro fu s hs
    obtain ⟨b1, b2, b3⟩ := hs
    have e : hdq F n v b = 0 := nx0 b2
    rw [e_X9_head_28, e]
    simp (disch := omega) only [↓reduceIte, ic_t, ic_f, not_true_eq_false, not_false_eq_true, ↓lt_v, rdR, rdE, rdS, leT, leTc, leTd, leF, leFc, leFd, ltT, ltTc, ltTd, ltF, ltFc, ltFd, eqT, eqTc, eqTd, eqF, eqFc, eqFd, m1T, m1F, m1T', m1F', inb_nI, ix_nI, inb_c, ix_c, nI_1, nI_pred, nI_m1, add_nIc, add_cnI, bd_v, reduceCtorEq, eqFcc, m1e0, m1e1, m1l0, m1g0, m2l0, m2g0, Int32.reduceLT, Int32.reduceLE, Int32.reduceAdd, Int32.reduceSub, Int32.reduceMul, eq_self, Bool.false_eq_true]
    exact ok_some (qc_none b3.2.2.2)
theorem r_head {M : Mem} {n b : Nat} {v : VV} {F : (Nat → Int32) → Int32} (hc : RR n v F M) (hb : b < n) :
    Ok (fX10_head (nI b) M) (QR (if hdq F n v b = 0 then -2 else nI (hdq F n v b - 1)) (if hdq F n v b = 0 then none else some [(fm F n v (hdq F n v b - 1)).toInt64]) M) := by
  have hn : n ≤ 6 := hc.1.1
  obtain ⟨hc0, hf0⟩ := r_thrown0 hc
  have hh := r_isBoat_in hc0.2.1 hn hb
  rw [e_X10_head]
  simp (disch := omega) only [↓reduceIte, ic_t, ic_f, not_true_eq_false, not_false_eq_true, ↓lt_v, rdR, rdE, rdS, leT, leTc, leTd, leF, leFc, leFd, ltT, ltTc, ltTd, ltF, ltFc, ltFd, eqT, eqTc, eqTd, eqF, eqFc, eqFd, m1T, m1F, m1T', m1F', inb_nI, ix_nI, inb_c, ix_c, nI_1, nI_pred, nI_m1, add_nIc, add_cnI, bd_v, reduceCtorEq, eqFcc, m1e0, m1e1, m1l0, m1g0, m2l0, m2g0, Int32.reduceLT, Int32.reduceLE, Int32.reduceAdd, Int32.reduceSub, Int32.reduceMul, eq_self, Bool.false_eq_true, hh]
  refine r_then hc0 (fun M1 g1 g2 g3 => ?_)
  have hFU : 2000 < FU := FU_big
  generalize FU = fu0 at hFU ⊢
  refine ok_loop 61 (fun fu k (s : Int32 × Mem) => fX10_head_23 fu (nI b) s.1 (nI k) s.2) (fun k s => s.1 = fm F n v k ∧ (∀ j, j < k → decide ((days F n j v).1 (12 + b) = 0) = false) ∧ TrR n (days F n k v) F M s.2) ?_ ?_ fu0 0 (-1, M1) (by omega) (by omega) ⟨rfl, fun j hj => absurd hj (Nat.not_lt_zero _), g1, g2.2.1, g2.2.2.2, frR_trans hf0 g3⟩
  · intro fu k s hk hs ih
    obtain ⟨b1, b2, b3⟩ := hs
    have hp := b3.1
    rw [e_X10_head_23]
    simp (disch := omega) only [↓reduceIte, ic_t, ic_f, not_true_eq_false, not_false_eq_true, ↓lt_v, rdR, rdE, rdS, leT, leTc, leTd, leF, leFc, leFd, ltT, ltTc, ltTd, ltF, ltFc, ltFd, eqT, eqTc, eqTd, eqF, eqFc, eqFd, m1T, m1F, m1T', m1F', inb_nI, ix_nI, inb_c, ix_c, nI_1, nI_pred, nI_m1, add_nIc, add_cnI, bd_v, reduceCtorEq, eqFcc, m1e0, m1e1, m1l0, m1g0, m2l0, m2g0, Int32.reduceLT, Int32.reduceLE, Int32.reduceAdd, Int32.reduceSub, Int32.reduceMul, eq_self, Bool.false_eq_true, hp]
    by_cases h0 : (days F n k v).1 (12 + b) = 0
    · rw [ic_pos h0]
      have e : hdq F n v b = k + 1 := nx1 hk (decide_eq_true h0) b2
      rw [e]
      refine r_tell1 (kr_1 b3.2.2.2) (fun M2 q1 q2 q3 q4 => ok_some ⟨?_, q1, ?_⟩)
      · simp
      · rw [if_neg (Nat.succ_ne_zero k), Nat.add_sub_cancel, ← b1]; exact q2
    · rw [ic_neg h0]
      have hbo := r_boatOn (k := 0) (wf_days hc.1 k) ln172 b3.2.1 b3.1 (by omega)
      rw [show (0 : Int32) = nI 0 from rfl, hbo]
      simp (disch := omega) only [↓reduceIte, ic_t, ic_f, not_true_eq_false, not_false_eq_true, ↓lt_v, rdR, rdE, rdS, leT, leTc, leTd, leF, leFc, leFd, ltT, ltTc, ltTd, ltF, ltFc, ltFd, eqT, eqTc, eqTd, eqF, eqFc, eqFd, m1T, m1F, m1T', m1F', inb_nI, ix_nI, inb_c, ix_c, nI_1, nI_pred, nI_m1, add_nIc, add_cnI, bd_v, reduceCtorEq, eqFcc, m1e0, m1e1, m1l0, m1g0, m2l0, m2g0, Int32.reduceLT, Int32.reduceLE, Int32.reduceAdd, Int32.reduceSub, Int32.reduceMul, eq_self, Bool.false_eq_true]
      refine trR_day (wf_days hc.1 k) b3 (fun q q2 q3 => ?_)
      refine ih (nI ((days F n k v).2 0), q) ⟨rfl, fun j hj => ?_, q2⟩
      by_cases e : j = k
      · subst e; exact decide_eq_false h0
      · exact b2 j (by omega)
  · intro fu s hs
    obtain ⟨b1, b2, b3⟩ := hs
    have e : hdq F n v b = 0 := nx0 b2
    rw [e_X10_head_23, e]
    simp (disch := omega) only [↓reduceIte, ic_t, ic_f, not_true_eq_false, not_false_eq_true, ↓lt_v, rdR, rdE, rdS, leT, leTc, leTd, leF, leFc, leFd, ltT, ltTc, ltTd, ltF, ltFc, ltFd, eqT, eqTc, eqTd, eqF, eqFc, eqFd, m1T, m1F, m1T', m1F', inb_nI, ix_nI, inb_c, ix_c, nI_1, nI_pred, nI_m1, add_nIc, add_cnI, bd_v, reduceCtorEq, eqFcc, m1e0, m1e1, m1l0, m1g0, m2l0, m2g0, Int32.reduceLT, Int32.reduceLE, Int32.reduceAdd, Int32.reduceSub, Int32.reduceMul, eq_self, Bool.false_eq_true]
    exact ok_some (qr_none b3.2.2.2)
/-- bumps: the first day, how many -/
def hit (F : (Nat → Int32) → Int32) (n : Nat) (v : VV) (x y : Nat) (e : Nat) : Bool := decide (tq (TT F n (days F n e v)).2.2.2.1 (TT F n (days F n e v)).2.2.2.2 (TT F n (days F n e v)).2.1 (nI x) = nI y)
def bst (F : (Nat → Int32) → Int32) (n : Nat) (v : VV) (x y : Nat) : Nat → Int32 × Nat
  | 0 => (-2, 0)
  | k + 1 => if hit F n v x y k = true then (if (bst F n v x y k).2 = 0 then nI (k + 1) else (bst F n v x y k).1, (bst F n v x y k).2 + 1) else bst F n v x y k
theorem bst_le {F : (Nat → Int32) → Int32} {n : Nat} {v : VV} {x y : Nat} : ∀ k, (bst F n v x y k).2 ≤ k
  | 0 => Nat.le_refl _
  | k + 1 => by
    have := bst_le (F := F) (n := n) (v := v) (x := x) (y := y) k
    unfold bst
    split
    · show (bst F n v x y k).2 + 1 ≤ _; omega
    · omega
theorem c_bumps {M : Mem} {n R x y : Nat} {v : VV} {F : (Nat → Int32) → Int32} (hc : CR n v F R M) (hx : x < n) (hy : y < n) (hxy : x ≠ y) :
    Ok (fX9_bumps (nI x) (nI y) M) (QC (bst F n v x y 60).1 (if (bst F n v x y 60).2 = 0 then none else some [(nI (bst F n v x y 60).2).toInt64]) M) := by
  have hn : n ≤ 6 := hc.1.1
  have hh := has_in hc.2.1.1 hn hx
  have hh2 := has_in hc.2.1.1 hn hy
  rw [e_X9_bumps]
  simp (disch := omega) only [↓reduceIte, ic_t, ic_f, not_true_eq_false, not_false_eq_true, ↓lt_v, rdR, rdE, rdS, leT, leTc, leTd, leF, leFc, leFd, ltT, ltTc, ltTd, ltF, ltFc, ltFd, eqT, eqTc, eqTd, eqF, eqFc, eqFd, m1T, m1F, m1T', m1F', inb_nI, ix_nI, inb_c, ix_c, nI_1, nI_pred, nI_m1, add_nIc, add_cnI, bd_v, reduceCtorEq, eqFcc, m1e0, m1e1, m1l0, m1g0, m2l0, m2g0, Int32.reduceLT, Int32.reduceLE, Int32.reduceAdd, Int32.reduceSub, Int32.reduceMul, eq_self, Bool.false_eq_true, hh, hh2]
  refine c_trial hc (fun M1 g1 g2 g3 g4 => ?_)
  have hFU : 2000 < FU := FU_big
  generalize FU = fu0 at hFU ⊢
  refine ok_loop 61 (fun fu k (s : (Int32 × Int32) × Mem) => fX9_bumps_49 fu (nI x) (nI y) s.1.1 s.1.2 (nI k) s.2) (fun k s => 1 ≤ k ∧ s.1.1 = (bst F n v x y (k - 1)).1 ∧ s.1.2 = nI (bst F n v x y (k - 1)).2 ∧ TrC n (days F n (k - 1) v) F R M s.2) ?_ ?_ fu0 1 ((-2, 0), M1) (by omega) (by omega) ⟨Nat.le_refl _, rfl, rfl, g1, g2.2.2.1, g3, g4⟩
  · intro fu k s hk hs ih
    obtain ⟨b0, b1, b2, b3⟩ := hs
    obtain ⟨e, rfl⟩ : ∃ e, k = e + 1 := ⟨k - 1, by omega⟩
    simp only [Nat.add_sub_cancel] at b1 b2 b3 ih
    have hle := bst_le (F := F) (n := n) (v := v) (x := x) (y := y) e
    have hst : bst F n v x y (e + 1) = if hit F n v x y e = true then (if (bst F n v x y e).2 = 0 then nI (e + 1) else (bst F n v x y e).1, (bst F n v x y e).2 + 1) else bst F n v x y e := rfl
    rw [e_X9_bumps_49]
    simp (disch := omega) only [↓reduceIte, ic_t, ic_f, not_true_eq_false, not_false_eq_true, ↓lt_v, rdR, rdE, rdS, leT, leTc, leTd, leF, leFc, leFd, ltT, ltTc, ltTd, ltF, ltFc, ltFd, eqT, eqTc, eqTd, eqF, eqFc, eqFd, m1T, m1F, m1T', m1F', inb_nI, ix_nI, inb_c, ix_c, nI_1, nI_pred, nI_m1, add_nIc, add_cnI, bd_v, reduceCtorEq, eqFcc, m1e0, m1e1, m1l0, m1g0, m2l0, m2g0, Int32.reduceLT, Int32.reduceLE, Int32.reduceAdd, Int32.reduceSub, Int32.reduceMul, eq_self, Bool.false_eq_true]
    refine trC_day (wf_days hc.1 e) hc.2.2.2.2 b3 (fun q q1 q2 q3 => ?_)
    obtain ⟨L, hL⟩ := q3
    have ht := (c_tq (x := nI x) (m_TT (wf_days hc.1 e)) hL).1
    simp (disch := omega) only [↓reduceIte, ic_t, ic_f, not_true_eq_false, not_false_eq_true, ↓lt_v, rdR, rdE, rdS, leT, leTc, leTd, leF, leFc, leFd, ltT, ltTc, ltTd, ltF, ltFc, ltFd, eqT, eqTc, eqTd, eqF, eqFc, eqFd, m1T, m1F, m1T', m1F', inb_nI, ix_nI, inb_c, ix_c, nI_1, nI_pred, nI_m1, add_nIc, add_cnI, bd_v, reduceCtorEq, eqFcc, m1e0, m1e1, m1l0, m1g0, m2l0, m2g0, Int32.reduceLT, Int32.reduceLE, Int32.reduceAdd, Int32.reduceSub, Int32.reduceMul, eq_self, Bool.false_eq_true, ht]
    by_cases hh : tq (TT F n (days F n e v)).2.2.2.1 (TT F n (days F n e v)).2.2.2.2 (TT F n (days F n e v)).2.1 (nI x) = nI y
    · rw [ic_pos hh]
      have hit1 : hit F n v x y e = true := decide_eq_true hh
      rw [hit1] at hst
      by_cases h0 : (bst F n v x y e).2 = 0
      · simp (disch := omega) only [↓reduceIte, ic_t, ic_f, not_true_eq_false, not_false_eq_true, ↓lt_v, rdR, rdE, rdS, leT, leTc, leTd, leF, leFc, leFd, ltT, ltTc, ltTd, ltF, ltFc, ltFd, eqT, eqTc, eqTd, eqF, eqFc, eqFd, m1T, m1F, m1T', m1F', inb_nI, ix_nI, inb_c, ix_c, nI_1, nI_pred, nI_m1, add_nIc, add_cnI, bd_v, reduceCtorEq, eqFcc, m1e0, m1e1, m1l0, m1g0, m2l0, m2g0, Int32.reduceLT, Int32.reduceLE, Int32.reduceAdd, Int32.reduceSub, Int32.reduceMul, eq_self, Bool.false_eq_true, b2, h0]
        refine ih ((nI (e + 1), nI 1), q.2) ⟨by omega, ?_, ?_, q2⟩
        · rw [hst]; simp [h0]
        · rw [hst]; simp [h0]
      · simp (disch := omega) only [↓reduceIte, ic_t, ic_f, not_true_eq_false, not_false_eq_true, ↓lt_v, rdR, rdE, rdS, leT, leTc, leTd, leF, leFc, leFd, ltT, ltTc, ltTd, ltF, ltFc, ltFd, eqT, eqTc, eqTd, eqF, eqFc, eqFd, m1T, m1F, m1T', m1F', inb_nI, ix_nI, inb_c, ix_c, nI_1, nI_pred, nI_m1, add_nIc, add_cnI, bd_v, reduceCtorEq, eqFcc, m1e0, m1e1, m1l0, m1g0, m2l0, m2g0, Int32.reduceLT, Int32.reduceLE, Int32.reduceAdd, Int32.reduceSub, Int32.reduceMul, eq_self, Bool.false_eq_true, b2]
        refine ih ((s.1.1, nI ((bst F n v x y e).2 + 1)), q.2) ⟨by omega, ?_, ?_, q2⟩
        · rw [hst]; simp [h0, b1]
        · rw [hst]; simp
    · rw [ic_neg hh]
      have hit0 : hit F n v x y e = false := decide_eq_false hh
      rw [hit0] at hst
      refine ih ((s.1.1, s.1.2), q.2) ⟨by omega, ?_, ?_, q2⟩
      · rw [hst]; exact b1
      · rw [hst]; exact b2
  · intro fu s hs
    obtain ⟨b0, b1, b2, b3⟩ := hs
    have hle := bst_le (F := F) (n := n) (v := v) (x := x) (y := y) 60
    have b1 : s.1.1 = (bst F n v x y 60).1 := b1
    have b2 : s.1.2 = nI (bst F n v x y 60).2 := b2
    rw [e_X9_bumps_49]
    by_cases h0 : (bst F n v x y 60).2 = 0
    · simp (disch := omega) only [↓reduceIte, ic_t, ic_f, not_true_eq_false, not_false_eq_true, ↓lt_v, rdR, rdE, rdS, leT, leTc, leTd, leF, leFc, leFd, ltT, ltTc, ltTd, ltF, ltFc, ltFd, eqT, eqTc, eqTd, eqF, eqFc, eqFd, m1T, m1F, m1T', m1F', inb_nI, ix_nI, inb_c, ix_c, nI_1, nI_pred, nI_m1, add_nIc, add_cnI, bd_v, reduceCtorEq, eqFcc, m1e0, m1e1, m1l0, m1g0, m2l0, m2g0, Int32.reduceLT, Int32.reduceLE, Int32.reduceAdd, Int32.reduceSub, Int32.reduceMul, eq_self, Bool.false_eq_true, b2, h0, b1]
      exact ok_some (qc_none b3.2.2.2)
    · simp (disch := omega) only [↓reduceIte, ic_t, ic_f, not_true_eq_false, not_false_eq_true, ↓lt_v, rdR, rdE, rdS, leT, leTc, leTd, leF, leFc, leFd, ltT, ltTc, ltTd, ltF, ltFc, ltFd, eqT, eqTc, eqTd, eqF, eqFc, eqFd, m1T, m1F, m1T', m1F', inb_nI, ix_nI, inb_c, ix_c, nI_1, nI_pred, nI_m1, add_nIc, add_cnI, bd_v, reduceCtorEq, eqFcc, m1e0, m1e1, m1l0, m1g0, m2l0, m2g0, Int32.reduceLT, Int32.reduceLE, Int32.reduceAdd, Int32.reduceSub, Int32.reduceMul, eq_self, Bool.false_eq_true, b2, b1]
      rw [if_neg h0]
      exact ok_call (c_tell (kc_fr b3.2.2.2)) (fun M2 q => ok_some ⟨rfl, q.1, q.2.1⟩)
theorem r_flagI {M : Mem} {z : Int32} (h : z = 0 ∨ z = 1) : fX10_flag z M = some (z, M) := by
  rw [e_X10_flag]
  rcases h with rfl | rfl <;> rfl
theorem r_bumps {M : Mem} {n x y : Nat} {v : VV} {F : (Nat → Int32) → Int32} (hc : RR n v F M) (hx : x < n) (hy : y < n) (hxy : x ≠ y) :
    Ok (fX10_bumps (nI x) (nI y) M) (QR (bst F n v x y 60).1 (if (bst F n v x y 60).2 = 0 then none else some [(nI (bst F n v x y 60).2).toInt64]) M) := by
  have hn : n ≤ 6 := hc.1.1
  obtain ⟨hc0, hf0⟩ := r_thrown0 hc
  have hh := r_isBoat_in hc0.2.1 hn hx
  have hh2 := r_isBoat_in hc0.2.1 hn hy
  have f0 : ∀ N : Mem, fX10_flag 0 N = some (0, N) := fun N => r_flagI (Or.inl rfl)
  have f1 : ∀ N : Mem, fX10_flag 1 N = some (1, N) := fun N => r_flagI (Or.inr rfl)
  rw [e_X10_bumps]
  simp (disch := omega) only [↓reduceIte, ic_t, ic_f, not_true_eq_false, not_false_eq_true, ↓lt_v, rdR, rdE, rdS, leT, leTc, leTd, leF, leFc, leFd, ltT, ltTc, ltTd, ltF, ltFc, ltFd, eqT, eqTc, eqTd, eqF, eqFc, eqFd, m1T, m1F, m1T', m1F', inb_nI, ix_nI, inb_c, ix_c, nI_1, nI_pred, nI_m1, add_nIc, add_cnI, bd_v, reduceCtorEq, eqFcc, m1e0, m1e1, m1l0, m1g0, m2l0, m2g0, Int32.reduceLT, Int32.reduceLE, Int32.reduceAdd, Int32.reduceSub, Int32.reduceMul, eq_self, Bool.false_eq_true, hh, hh2]
  refine r_then hc0 (fun M1 g1 g2 g3 => ?_)
  have hFU : 2000 < FU := FU_big
  generalize FU = fu0 at hFU ⊢
  refine ok_loop 61 (fun fu k (s : (Int32 × Int32) × Mem) => fX10_bumps_41 fu (nI x) (nI y) s.1.1 s.1.2 (nI k) s.2) (fun k s => 1 ≤ k ∧ s.1.1 = (bst F n v x y (k - 1)).1 ∧ s.1.2 = nI (bst F n v x y (k - 1)).2 ∧ TrR n (days F n (k - 1) v) F M s.2) ?_ ?_ fu0 1 ((-2, 0), M1) (by omega) (by omega) ⟨Nat.le_refl _, rfl, rfl, g1, g2.2.1, g2.2.2.2, frR_trans hf0 g3⟩
  · intro fu k s hk hs ih
    obtain ⟨b0, b1, b2, b3⟩ := hs
    obtain ⟨e, rfl⟩ : ∃ e, k = e + 1 := ⟨k - 1, by omega⟩
    simp only [Nat.add_sub_cancel] at b1 b2 b3 ih
    have hle := bst_le (F := F) (n := n) (v := v) (x := x) (y := y) e
    have hst : bst F n v x y (e + 1) = if hit F n v x y e = true then (if (bst F n v x y e).2 = 0 then nI (e + 1) else (bst F n v x y e).1, (bst F n v x y e).2 + 1) else bst F n v x y e := rfl
    rw [e_X10_bumps_41]
    simp (disch := omega) only [↓reduceIte, ic_t, ic_f, not_true_eq_false, not_false_eq_true, ↓lt_v, rdR, rdE, rdS, leT, leTc, leTd, leF, leFc, leFd, ltT, ltTc, ltTd, ltF, ltFc, ltFd, eqT, eqTc, eqTd, eqF, eqFc, eqFd, m1T, m1F, m1T', m1F', inb_nI, ix_nI, inb_c, ix_c, nI_1, nI_pred, nI_m1, add_nIc, add_cnI, bd_v, reduceCtorEq, eqFcc, m1e0, m1e1, m1l0, m1g0, m2l0, m2g0, Int32.reduceLT, Int32.reduceLE, Int32.reduceAdd, Int32.reduceSub, Int32.reduceMul, eq_self, Bool.false_eq_true]
    refine trR_day (wf_days hc.1 e) b3 (fun q q2 q3 => ?_)
    obtain ⟨L, hL⟩ := q3
    have hm : (TT F n (days F n e v)).2.1 ≤ 3 := m_TT (wf_days hc.1 e)
    have ht := r_touchOf (x := nI x) hm hL
    have hfl := fq_le (TT F n (days F n e v)).2.2.2.1 (TT F n (days F n e v)).2.1 (nI x)
    have no : hit F n v x y e = false → Ok (fX10_bumps_83 (fX10_bumps_41 fu) (nI x) (nI y) s.1.1 s.1.2 (nI (e + 1)) q) (QR (bst F n v x y 60).1 (if (bst F n v x y 60).2 = 0 then none else some [(nI (bst F n v x y 60).2).toInt64]) M) := by
      intro hit0
      rw [hit0] at hst
      rw [e_X10_bumps_83]
      simp (disch := omega) only [↓reduceIte, ic_t, ic_f, not_true_eq_false, not_false_eq_true, ↓lt_v, rdR, rdE, rdS, leT, leTc, leTd, leF, leFc, leFd, ltT, ltTc, ltTd, ltF, ltFc, ltFd, eqT, eqTc, eqTd, eqF, eqFc, eqFd, m1T, m1F, m1T', m1F', inb_nI, ix_nI, inb_c, ix_c, nI_1, nI_pred, nI_m1, add_nIc, add_cnI, bd_v, reduceCtorEq, eqFcc, m1e0, m1e1, m1l0, m1g0, m2l0, m2g0, Int32.reduceLT, Int32.reduceLE, Int32.reduceAdd, Int32.reduceSub, Int32.reduceMul, eq_self, Bool.false_eq_true, e_X10_bumps_84, e_X10_bumps_101, e_X10_bumps_102, f0, b2]
      refine ih ((s.1.1, nI (bst F n v x y e).2), q) ⟨by omega, ?_, ?_, q2⟩
      · rw [hst]; exact b1
      · rw [hst]; rfl
    simp (disch := omega) only [↓reduceIte, ic_t, ic_f, not_true_eq_false, not_false_eq_true, ↓lt_v, rdR, rdE, rdS, leT, leTc, leTd, leF, leFc, leFd, ltT, ltTc, ltTd, ltF, ltFc, ltFd, eqT, eqTc, eqTd, eqF, eqFc, eqFd, m1T, m1F, m1T', m1F', inb_nI, ix_nI, inb_c, ix_c, nI_1, nI_pred, nI_m1, add_nIc, add_cnI, bd_v, reduceCtorEq, eqFcc, m1e0, m1e1, m1l0, m1g0, m2l0, m2g0, Int32.reduceLT, Int32.reduceLE, Int32.reduceAdd, Int32.reduceSub, Int32.reduceMul, eq_self, Bool.false_eq_true, ht]
    by_cases h0 : fq (TT F n (days F n e v)).2.2.2.1 (TT F n (days F n e v)).2.1 (nI x) = 0
    · simp (disch := omega) only [↓reduceIte, ic_t, ic_f, not_true_eq_false, not_false_eq_true, ↓lt_v, rdR, rdE, rdS, leT, leTc, leTd, leF, leFc, leFd, ltT, ltTc, ltTd, ltF, ltFc, ltFd, eqT, eqTc, eqTd, eqF, eqFc, eqFd, m1T, m1F, m1T', m1F', inb_nI, ix_nI, inb_c, ix_c, nI_1, nI_pred, nI_m1, add_nIc, add_cnI, bd_v, reduceCtorEq, eqFcc, m1e0, m1e1, m1l0, m1g0, m2l0, m2g0, Int32.reduceLT, Int32.reduceLE, Int32.reduceAdd, Int32.reduceSub, Int32.reduceMul, eq_self, Bool.false_eq_true, h0]
      refine no (decide_eq_false ?_)
      unfold tq
      rw [if_pos h0]
      exact fun q => absurd (q ▸ (by decide : (-1 : Int32) < 0)) (nI_pos (by omega))
    · obtain ⟨i, hi⟩ : ∃ i, fq (TT F n (days F n e v)).2.2.2.1 (TT F n (days F n e v)).2.1 (nI x) = i + 1 := ⟨_ - 1, (Nat.sub_add_cancel (by omega)).symm⟩
      have gB := (hL.2.2.2.2.2 i (by omega)).2.2
      have etq : tq (TT F n (days F n e v)).2.2.2.1 (TT F n (days F n e v)).2.2.2.2 (TT F n (days F n e v)).2.1 (nI x) = (TT F n (days F n e v)).2.2.2.2 i := by
        unfold tq
        rw [hi]
        simp
      simp (disch := omega) only [↓reduceIte, ic_t, ic_f, not_true_eq_false, not_false_eq_true, ↓lt_v, rdR, rdE, rdS, leT, leTc, leTd, leF, leFc, leFd, ltT, ltTc, ltTd, ltF, ltFc, ltFd, eqT, eqTc, eqTd, eqF, eqFc, eqFd, m1T, m1F, m1T', m1F', inb_nI, ix_nI, inb_c, ix_c, nI_1, nI_pred, nI_m1, add_nIc, add_cnI, bd_v, reduceCtorEq, eqFcc, m1e0, m1e1, m1l0, m1g0, m2l0, m2g0, Int32.reduceLT, Int32.reduceLE, Int32.reduceAdd, Int32.reduceSub, Int32.reduceMul, eq_self, Bool.false_eq_true, hi, gB]
      by_cases hh : (TT F n (days F n e v)).2.2.2.2 i = nI y
      · rw [ic_pos hh]
        have hit1 : hit F n v x y e = true := decide_eq_true (etq.trans hh)
        rw [hit1] at hst
        rw [e_X10_bumps_84]
        by_cases h1 : (bst F n v x y e).2 = 0
        · simp (disch := omega) only [↓reduceIte, ic_t, ic_f, not_true_eq_false, not_false_eq_true, ↓lt_v, rdR, rdE, rdS, leT, leTc, leTd, leF, leFc, leFd, ltT, ltTc, ltTd, ltF, ltFc, ltFd, eqT, eqTc, eqTd, eqF, eqFc, eqFd, m1T, m1F, m1T', m1F', inb_nI, ix_nI, inb_c, ix_c, nI_1, nI_pred, nI_m1, add_nIc, add_cnI, bd_v, reduceCtorEq, eqFcc, m1e0, m1e1, m1l0, m1g0, m2l0, m2g0, Int32.reduceLT, Int32.reduceLE, Int32.reduceAdd, Int32.reduceSub, Int32.reduceMul, eq_self, Bool.false_eq_true, b2, h1, e_X10_bumps_102, f1]
          refine ih ((nI (e + 1), nI 1), q) ⟨by omega, ?_, ?_, q2⟩
          · rw [hst]; simp [h1]
          · rw [hst]; simp [h1]
        · simp (disch := omega) only [↓reduceIte, ic_t, ic_f, not_true_eq_false, not_false_eq_true, ↓lt_v, rdR, rdE, rdS, leT, leTc, leTd, leF, leFc, leFd, ltT, ltTc, ltTd, ltF, ltFc, ltFd, eqT, eqTc, eqTd, eqF, eqFc, eqFd, m1T, m1F, m1T', m1F', inb_nI, ix_nI, inb_c, ix_c, nI_1, nI_pred, nI_m1, add_nIc, add_cnI, bd_v, reduceCtorEq, eqFcc, m1e0, m1e1, m1l0, m1g0, m2l0, m2g0, Int32.reduceLT, Int32.reduceLE, Int32.reduceAdd, Int32.reduceSub, Int32.reduceMul, eq_self, Bool.false_eq_true, b2, e_X10_bumps_101, e_X10_bumps_102, f1]
          refine ih ((s.1.1, nI ((bst F n v x y e).2 + 1)), q) ⟨by omega, ?_, ?_, q2⟩
          · rw [hst]; simp [h1, b1]
          · rw [hst]; simp
      · rw [ic_neg hh]
        exact no (decide_eq_false (by rw [etq]; exact hh))
  · intro fu s hs
    obtain ⟨b0, b1, b2, b3⟩ := hs
    have hle := bst_le (F := F) (n := n) (v := v) (x := x) (y := y) 60
    have b1 : s.1.1 = (bst F n v x y 60).1 := b1
    have b2 : s.1.2 = nI (bst F n v x y 60).2 := b2
    rw [e_X10_bumps_41]
    by_cases h0 : (bst F n v x y 60).2 = 0
    · simp (disch := omega) only [↓reduceIte, ic_t, ic_f, not_true_eq_false, not_false_eq_true, ↓lt_v, rdR, rdE, rdS, leT, leTc, leTd, leF, leFc, leFd, ltT, ltTc, ltTd, ltF, ltFc, ltFd, eqT, eqTc, eqTd, eqF, eqFc, eqFd, m1T, m1F, m1T', m1F', inb_nI, ix_nI, inb_c, ix_c, nI_1, nI_pred, nI_m1, add_nIc, add_cnI, bd_v, reduceCtorEq, eqFcc, m1e0, m1e1, m1l0, m1g0, m2l0, m2g0, Int32.reduceLT, Int32.reduceLE, Int32.reduceAdd, Int32.reduceSub, Int32.reduceMul, eq_self, Bool.false_eq_true, b2, h0, b1]
      exact ok_some (qr_none b3.2.2.2)
    · simp (disch := omega) only [↓reduceIte, ic_t, ic_f, not_true_eq_false, not_false_eq_true, ↓lt_v, rdR, rdE, rdS, leT, leTc, leTd, leF, leFc, leFd, ltT, ltTc, ltTd, ltF, ltFc, ltFd, eqT, eqTc, eqTd, eqF, eqFc, eqFd, m1T, m1F, m1T', m1F', inb_nI, ix_nI, inb_c, ix_c, nI_1, nI_pred, nI_m1, add_nIc, add_cnI, bd_v, reduceCtorEq, eqFcc, m1e0, m1e1, m1l0, m1g0, m2l0, m2g0, Int32.reduceLT, Int32.reduceLE, Int32.reduceAdd, Int32.reduceSub, Int32.reduceMul, eq_self, Bool.false_eq_true, b2, b1]
      rw [if_neg h0]
      exact r_tell1 (kr_1 b3.2.2.2) (fun M2 q1 q2 q3 q4 => ok_some ⟨rfl, q1, q2⟩)
/-- blades -/
def bld (F : (Nat → Int32) → Int32) (n : Nat) (v : VV) : Nat → Int32 × Int32
  | 0 => (nI (2 ^ n - 1), nI (2 ^ n - 1))
  | k + 1 => ((bld F n v k).1 &&& bts (TT F n (days F n k v)).2.2.2.1 (TT F n (days F n k v)).2.1, (bld F n v k).2 &&& bts (TT F n (days F n k v)).2.2.2.2 (TT F n (days F n k v)).2.1)
theorem c_blades {M : Mem} {n R d : Nat} {v : VV} {F : (Nat → Int32) → Int32} (hc : CR n v F R M) (h1 : 1 ≤ d) (hd : d ≤ 9) :
    Ok (fX9_blades (nI d) M) (QC (bld F n v d).1 (some [(bld F n v d).2.toInt64]) M) := by
  have hn : n ≤ 6 := hc.1.1
  have hb := (bt_all n hn).1
  rw [e_X9_blades]
  simp (disch := omega) only [↓reduceIte, ic_t, ic_f, not_true_eq_false, not_false_eq_true, ↓lt_v, rdR, rdE, rdS, leT, leTc, leTd, leF, leFc, leFd, ltT, ltTc, ltTd, ltF, ltFc, ltFd, eqT, eqTc, eqTd, eqF, eqFc, eqFd, m1T, m1F, m1T', m1F', inb_nI, ix_nI, inb_c, ix_c, nI_1, nI_pred, nI_m1, add_nIc, add_cnI, bd_v, reduceCtorEq, eqFcc, m1e0, m1e1, m1l0, m1g0, m2l0, m2g0, Int32.reduceLT, Int32.reduceLE, Int32.reduceAdd, Int32.reduceSub, Int32.reduceMul, eq_self, Bool.false_eq_true]
  refine c_trial hc (fun M1 g1 g2 g3 g4 => ?_)
  have e6 := g2.2.1.1
  simp (disch := omega) only [↓reduceIte, ic_t, ic_f, not_true_eq_false, not_false_eq_true, ↓lt_v, rdR, rdE, rdS, leT, leTc, leTd, leF, leFc, leFd, ltT, ltTc, ltTd, ltF, ltFc, ltFd, eqT, eqTc, eqTd, eqF, eqFc, eqFd, m1T, m1F, m1T', m1F', inb_nI, ix_nI, inb_c, ix_c, nI_1, nI_pred, nI_m1, add_nIc, add_cnI, bd_v, reduceCtorEq, eqFcc, m1e0, m1e1, m1l0, m1g0, m2l0, m2g0, Int32.reduceLT, Int32.reduceLE, Int32.reduceAdd, Int32.reduceSub, Int32.reduceMul, eq_self, Bool.false_eq_true, e6, hb]
  have hFU : 2000 < FU := FU_big
  generalize FU = fu0 at hFU ⊢
  refine ok_loop d (fun fu k (s : (Int32 × Int32) × Mem) => fX9_blades_41 fu (nI d) s.1.1 s.1.2 (nI k) s.2) (fun k s => s.1 = bld F n v k ∧ TrC n (days F n k v) F R M s.2) ?_ ?_ fu0 0 ((nI (2 ^ n - 1), nI (2 ^ n - 1)), M1) (by omega) (by omega) ⟨rfl, g1, g2.2.2.1, g3, g4⟩
  · intro fu k s hk hs ih
    obtain ⟨b1, b3⟩ := hs
    rw [e_X9_blades_41]
    simp (disch := omega) only [↓reduceIte, ic_t, ic_f, not_true_eq_false, not_false_eq_true, ↓lt_v, rdR, rdE, rdS, leT, leTc, leTd, leF, leFc, leFd, ltT, ltTc, ltTd, ltF, ltFc, ltFd, eqT, eqTc, eqTd, eqF, eqFc, eqFd, m1T, m1F, m1T', m1F', inb_nI, ix_nI, inb_c, ix_c, nI_1, nI_pred, nI_m1, add_nIc, add_cnI, bd_v, reduceCtorEq, eqFcc, m1e0, m1e1, m1l0, m1g0, m2l0, m2g0, Int32.reduceLT, Int32.reduceLE, Int32.reduceAdd, Int32.reduceSub, Int32.reduceMul, eq_self, Bool.false_eq_true]
    refine trC_day (wf_days hc.1 k) hc.2.2.2.2 b3 (fun q q1 q2 q3 => ?_)
    obtain ⟨L, hL⟩ := q3
    obtain ⟨t1, t2⟩ := c_bits (m_TT (wf_days hc.1 k)) hL
    simp (disch := omega) only [↓reduceIte, ic_t, ic_f, not_true_eq_false, not_false_eq_true, ↓lt_v, rdR, rdE, rdS, leT, leTc, leTd, leF, leFc, leFd, ltT, ltTc, ltTd, ltF, ltFc, ltFd, eqT, eqTc, eqTd, eqF, eqFc, eqFd, m1T, m1F, m1T', m1F', inb_nI, ix_nI, inb_c, ix_c, nI_1, nI_pred, nI_m1, add_nIc, add_cnI, bd_v, reduceCtorEq, eqFcc, m1e0, m1e1, m1l0, m1g0, m2l0, m2g0, Int32.reduceLT, Int32.reduceLE, Int32.reduceAdd, Int32.reduceSub, Int32.reduceMul, eq_self, Bool.false_eq_true, t1, t2]
    exact ih ((_, _), q.2) ⟨by rw [b1]; rfl, q2⟩
  · intro fu s hs
    obtain ⟨b1, b3⟩ := hs
    rw [e_X9_blades_41, b1]
    simp (disch := omega) only [↓reduceIte, ic_t, ic_f, not_true_eq_false, not_false_eq_true, ↓lt_v, rdR, rdE, rdS, leT, leTc, leTd, leF, leFc, leFd, ltT, ltTc, ltTd, ltF, ltFc, ltFd, eqT, eqTc, eqTd, eqF, eqFc, eqFd, m1T, m1F, m1T', m1F', inb_nI, ix_nI, inb_c, ix_c, nI_1, nI_pred, nI_m1, add_nIc, add_cnI, bd_v, reduceCtorEq, eqFcc, m1e0, m1e1, m1l0, m1g0, m2l0, m2g0, Int32.reduceLT, Int32.reduceLE, Int32.reduceAdd, Int32.reduceSub, Int32.reduceMul, eq_self, Bool.false_eq_true]
    exact ok_call (c_tell (kc_fr b3.2.2.2)) (fun M2 q => ok_some ⟨rfl, q.1, q.2.1⟩)
theorem r_blades {M : Mem} {n d : Nat} {v : VV} {F : (Nat → Int32) → Int32} (hc : RR n v F M) (h1 : 1 ≤ d) (hd : d ≤ 9) :
    Ok (fX10_blades (nI d) M) (QR (bld F n v d).1 (some [(bld F n v d).2.toInt64]) M) := by
  have hn : n ≤ 6 := hc.1.1
  have hb := (bt_all n hn).1
  obtain ⟨hc0, hf0⟩ := r_thrown0 hc
  have hi : ∀ M : Mem, fX10_in (nI d).toInt64 1 9 M = some (1, M) := fun M => by rw [r_inI (lo := 1) (hi := 9) (by decide) (by decide), nI_toInt (by omega), if_pos (by omega)]
  rw [e_X10_blades]
  simp (disch := omega) only [↓reduceIte, ic_t, ic_f, not_true_eq_false, not_false_eq_true, ↓lt_v, rdR, rdE, rdS, leT, leTc, leTd, leF, leFc, leFd, ltT, ltTc, ltTd, ltF, ltFc, ltFd, eqT, eqTc, eqTd, eqF, eqFc, eqFd, m1T, m1F, m1T', m1F', inb_nI, ix_nI, inb_c, ix_c, nI_1, nI_pred, nI_m1, add_nIc, add_cnI, bd_v, reduceCtorEq, eqFcc, m1e0, m1e1, m1l0, m1g0, m2l0, m2g0, Int32.reduceLT, Int32.reduceLE, Int32.reduceAdd, Int32.reduceSub, Int32.reduceMul, eq_self, Bool.false_eq_true, hi]
  refine r_then hc0 (fun M1 g1 g2 g3 => ?_)
  have e6 := g2.2.1
  simp (disch := omega) only [↓reduceIte, ic_t, ic_f, not_true_eq_false, not_false_eq_true, ↓lt_v, rdR, rdE, rdS, leT, leTc, leTd, leF, leFc, leFd, ltT, ltTc, ltTd, ltF, ltFc, ltFd, eqT, eqTc, eqTd, eqF, eqFc, eqFd, m1T, m1F, m1T', m1F', inb_nI, ix_nI, inb_c, ix_c, nI_1, nI_pred, nI_m1, add_nIc, add_cnI, bd_v, reduceCtorEq, eqFcc, m1e0, m1e1, m1l0, m1g0, m2l0, m2g0, Int32.reduceLT, Int32.reduceLE, Int32.reduceAdd, Int32.reduceSub, Int32.reduceMul, eq_self, Bool.false_eq_true, e6, hb]
  have hFU : 2000 < FU := FU_big
  generalize FU = fu0 at hFU ⊢
  refine ok_loop d (fun fu k (s : (Int32 × Int32) × Mem) => fX10_blades_37 fu (nI d) s.1.1 s.1.2 (nI k) s.2) (fun k s => s.1 = bld F n v k ∧ TrR n (days F n k v) F M s.2) ?_ ?_ fu0 0 ((nI (2 ^ n - 1), nI (2 ^ n - 1)), M1) (by omega) (by omega) ⟨rfl, g1, g2.2.1, g2.2.2.2, frR_trans hf0 g3⟩
  · intro fu k s hk hs ih
    obtain ⟨b1, b3⟩ := hs
    rw [e_X10_blades_37]
    simp (disch := omega) only [↓reduceIte, ic_t, ic_f, not_true_eq_false, not_false_eq_true, ↓lt_v, rdR, rdE, rdS, leT, leTc, leTd, leF, leFc, leFd, ltT, ltTc, ltTd, ltF, ltFc, ltFd, eqT, eqTc, eqTd, eqF, eqFc, eqFd, m1T, m1F, m1T', m1F', inb_nI, ix_nI, inb_c, ix_c, nI_1, nI_pred, nI_m1, add_nIc, add_cnI, bd_v, reduceCtorEq, eqFcc, m1e0, m1e1, m1l0, m1g0, m2l0, m2g0, Int32.reduceLT, Int32.reduceLE, Int32.reduceAdd, Int32.reduceSub, Int32.reduceMul, eq_self, Bool.false_eq_true]
    refine trR_day (wf_days hc.1 k) b3 (fun q q2 q3 => ?_)
    obtain ⟨L, hL⟩ := q3
    obtain ⟨t1, t2⟩ := r_bits (m_TT (wf_days hc.1 k)) hL
    simp (disch := omega) only [↓reduceIte, ic_t, ic_f, not_true_eq_false, not_false_eq_true, ↓lt_v, rdR, rdE, rdS, leT, leTc, leTd, leF, leFc, leFd, ltT, ltTc, ltTd, ltF, ltFc, ltFd, eqT, eqTc, eqTd, eqF, eqFc, eqFd, m1T, m1F, m1T', m1F', inb_nI, ix_nI, inb_c, ix_c, nI_1, nI_pred, nI_m1, add_nIc, add_cnI, bd_v, reduceCtorEq, eqFcc, m1e0, m1e1, m1l0, m1g0, m2l0, m2g0, Int32.reduceLT, Int32.reduceLE, Int32.reduceAdd, Int32.reduceSub, Int32.reduceMul, eq_self, Bool.false_eq_true, t1, t2]
    exact ih ((_, _), q) ⟨by rw [b1]; rfl, q2⟩
  · intro fu s hs
    obtain ⟨b1, b3⟩ := hs
    rw [e_X10_blades_37, b1]
    simp (disch := omega) only [↓reduceIte, ic_t, ic_f, not_true_eq_false, not_false_eq_true, ↓lt_v, rdR, rdE, rdS, leT, leTc, leTd, leF, leFc, leFd, ltT, ltTc, ltTd, ltF, ltFc, ltFd, eqT, eqTc, eqTd, eqF, eqFc, eqFd, m1T, m1F, m1T', m1F', inb_nI, ix_nI, inb_c, ix_c, nI_1, nI_pred, nI_m1, add_nIc, add_cnI, bd_v, reduceCtorEq, eqFcc, m1e0, m1e1, m1l0, m1g0, m2l0, m2g0, Int32.reduceLT, Int32.reduceLE, Int32.reduceAdd, Int32.reduceSub, Int32.reduceMul, eq_self, Bool.false_eq_true]
    exact r_tell1 (kr_1 b3.2.2.2) (fun M2 q1 q2 q3 q4 => ok_some ⟨rfl, q1, q2⟩)
