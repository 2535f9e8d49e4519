/-! PURE: round of the reference -/
def SnR (F : (Nat → Int32) → Int32) (n : Nat) (v : VV) (k : Nat) (s : Mem) : Prop := ∀ y, y < 720 → s.1 191 y = bI (decide (∃ j, j < k ∧ ol F n v j = y))
theorem ol_lt {F : (Nat → Int32) → Int32} {n : Nat} {v : VV} (hw : WfV n v) (k : Nat) : ol F n v k < 720 := lh_lt hw.1
theorem ln189 : ln 189 = 6 := by decide
theorem r_num {M s : Mem} {n k : Nat} {v : VV} {F : (Nat → Int32) → Int32} {α : Type} {f : Int32 × Mem → Option α} {Q : α → Prop} (hw : WfV n v) (h : TrR n (days F n k v) F M s) (hs : SnR F n v k s)
    (kk : ∀ q, TrR n (days F n k v) F M q → SnR F n v k q → Ok (f (nI (ol F n v k), q)) Q) : Ok ((fX10_laysStanding 172 189 s).bind fun q16 => (fX10_numberOf 189 q16).bind f) Q := by
  have hn : n ≤ 6 := hw.1
  obtain ⟨h1, h2, h3, h4⟩ := h
  refine ok_call (r_laysStanding (wf_days hw k) ln172 (by rw [ln189]; omega) (by rw [ln189]; omega) (by omega) (by omega) h2 h1) (fun M1 g => ?_)
  obtain ⟨g1, g2⟩ := g
  have e0 : M1.1 169 3 = nI n := by rw [g2.2.1 3 (fun q => q)]; exact h2
  have wd := wf_days (F := F) hw k
  rw [r_numberOf (o := (days F n k v).2) hn (by rw [ln189]; omega) (by rw [ln189]; omega) e0 (fun i hi => ⟨g1 i hi, by have := (wf_prm wd).1 i hi; omega⟩)]
  refine kk M1 ⟨fun i hi => by rw [g2.1 172 (by omega) (by omega)]; exact h1 i hi, e0, ruR_fr h3 (g2.1 175 (by omega) (by omega)) (g2.2.1 16 (fun q => q)), frR_trans h4 (frR_sub g2 (fun b _ hb => by unfold SR; omega) (fun i hi => hi.elim))⟩ (fun y hy => ?_)
  rw [g2.1 191 (by omega) (by omega)]
  exact hs y hy
theorem r_mark {M s : Mem} {n k : Nat} {v : VV} {F : (Nat → Int32) → Int32} {x1 : Int32} {k56 : Int32 → Int32 → Int32 → Mem → Option (Int32 × Mem)} {Q : Int32 × Mem → Prop} (hw : WfV n v) (hk : k ≤ 100) (h : TrR n (days F n k v) F M s) (hs : SnR F n v k s)
    (kk : ∀ q, TrR n (days F n (k + 1) v) F M q → SnR F n v (k + 1) q → Ok (k56 x1 (nI (cnd F n v (k + 1))) (nI (k + 1)) q) Q) : Ok (fX10_round_107 k56 x1 (nI (cnd F n v k)) (nI k) (nI (ol F n v k)) s) Q := by
  have f0 : ∀ N : Mem, fX10_flag 0 N = some (0, N) := fun N => r_flagI (Or.inl rfl)
  have f1 : ∀ N : Mem, fX10_flag 1 N = some (1, N) := fun N => r_flagI (Or.inr rfl)
  have z1 : (1 &&& 1 : Int32) = 1 := by decide
  have hl := ol_lt (F := F) hw k
  have cl := cnd_le (F := F) (n := n) (v := v) k
  have hb := hs (ol F n v k) hl
  have fin : Ok ((fX10_dayGoes 172 (sI s 191 (ol F n v k) 1)).bind fun q => k56 x1 (nI (cnd F n v (k + 1))) (nI (k + 1)) q) Q := by
    obtain ⟨h1, h2, h3, h4⟩ := h
    refine ok_call (r_day (wf_days hw k) ln172 (by omega) (by simp (disch := omega) only [↓reduceIte, ic_t, ic_f, not_true_eq_false, not_false_eq_true, ↓lt_v, rdR, rdE, rdS, leT, leTc, leTd, leF, leFc, leFd, ltT, ltTc, ltTd, ltF, ltFc, ltFd, eqT, eqTc, eqTd, eqF, eqFc, eqFd, m1T, m1F, m1T', m1F', inb_nI, ix_nI, inb_c, ix_c, nI_1, nI_pred, nI_m1, add_nIc, add_cnI, bd_v, reduceCtorEq, eqFcc, m1e0, m1e1, m1l0, m1g0, m2l0, m2g0, Int32.reduceLT, Int32.reduceLE, Int32.reduceAdd, Int32.reduceSub, Int32.reduceMul, eq_self, Bool.false_eq_true]; exact h2) (fun i hi => by simp (disch := omega) only [↓reduceIte, ic_t, ic_f, not_true_eq_false, not_false_eq_true, ↓lt_v, rdR, rdE, rdS, leT, leTc, leTd, leF, leFc, leFd, ltT, ltTc, ltTd, ltF, ltFc, ltFd, eqT, eqTc, eqTd, eqF, eqFc, eqFd, m1T, m1F, m1T', m1F', inb_nI, ix_nI, inb_c, ix_c, nI_1, nI_pred, nI_m1, add_nIc, add_cnI, bd_v, reduceCtorEq, eqFcc, m1e0, m1e1, m1l0, m1g0, m2l0, m2g0, Int32.reduceLT, Int32.reduceLE, Int32.reduceAdd, Int32.reduceSub, Int32.reduceMul, eq_self, Bool.false_eq_true]; exact h1 i hi) (ruR_fr h3 (by simp (disch := omega) only [row_n]) (by simp (disch := omega) only [↓reduceIte, ic_t, ic_f, not_true_eq_false, not_false_eq_true, ↓lt_v, rdR, rdE, rdS, leT, leTc, leTd, leF, leFc, leFd, ltT, ltTc, ltTd, ltF, ltFc, ltFd, eqT, eqTc, eqTd, eqF, eqFc, eqFd, m1T, m1F, m1T', m1F', inb_nI, ix_nI, inb_c, ix_c, nI_1, nI_pred, nI_m1, add_nIc, add_cnI, bd_v, reduceCtorEq, eqFcc, m1e0, m1e1, m1l0, m1g0, m2l0, m2g0, Int32.reduceLT, Int32.reduceLE, Int32.reduceAdd, Int32.reduceSub, Int32.reduceMul, eq_self, Bool.false_eq_true]))) (fun q g => kk q ⟨g.1, ?_, g.2.2.2.1, frR_trans (frR_trans h4 (frR_sI (by unfold SR; omega) (by omega))) (frR_SR g.2.2.2.2 (by omega))⟩ (fun y hy => ?_))
    · rw [g.2.2.2.2.2.1 3 (by unfold SDr; omega)]
      simp (disch := omega) only [↓reduceIte, ic_t, ic_f, not_true_eq_false, not_false_eq_true, ↓lt_v, rdR, rdE, rdS, leT, leTc, leTd, leF, leFc, leFd, ltT, ltTc, ltTd, ltF, ltFc, ltFd, eqT, eqTc, eqTd, eqF, eqFc, eqFd, m1T, m1F, m1T', m1F', inb_nI, ix_nI, inb_c, ix_c, nI_1, nI_pred, nI_m1, add_nIc, add_cnI, bd_v, reduceCtorEq, eqFcc, m1e0, m1e1, m1l0, m1g0, m2l0, m2g0, Int32.reduceLT, Int32.reduceLE, Int32.reduceAdd, Int32.reduceSub, Int32.reduceMul, eq_self, Bool.false_eq_true]
      exact h2
    · rw [g.2.2.2.2.1 191 (by omega) (by unfold PDr; omega)]
      by_cases e : y = ol F n v k
      · subst e
        rw [decide_eq_true ⟨k, by omega, rfl⟩]
        simp (disch := omega) only [↓reduceIte, ic_t, ic_f, not_true_eq_false, not_false_eq_true, ↓lt_v, rdR, rdE, rdS, leT, leTc, leTd, leF, leFc, leFd, ltT, ltTc, ltTd, ltF, ltFc, ltFd, eqT, eqTc, eqTd, eqF, eqFc, eqFd, m1T, m1F, m1T', m1F', inb_nI, ix_nI, inb_c, ix_c, nI_1, nI_pred, nI_m1, add_nIc, add_cnI, bd_v, reduceCtorEq, eqFcc, m1e0, m1e1, m1l0, m1g0, m2l0, m2g0, Int32.reduceLT, Int32.reduceLE, Int32.reduceAdd, Int32.reduceSub, Int32.reduceMul, eq_self, Bool.false_eq_true]
        rfl
      · have := hs y hy
        simp (disch := omega) only [↓reduceIte, ic_t, ic_f, not_true_eq_false, not_false_eq_true, ↓lt_v, rdR, rdE, rdS, leT, leTc, leTd, leF, leFc, leFd, ltT, ltTc, ltTd, ltF, ltFc, ltFd, eqT, eqTc, eqTd, eqF, eqFc, eqFd, m1T, m1F, m1T', m1F', inb_nI, ix_nI, inb_c, ix_c, nI_1, nI_pred, nI_m1, add_nIc, add_cnI, bd_v, reduceCtorEq, eqFcc, m1e0, m1e1, m1l0, m1g0, m2l0, m2g0, Int32.reduceLT, Int32.reduceLE, Int32.reduceAdd, Int32.reduceSub, Int32.reduceMul, eq_self, Bool.false_eq_true]
        rw [this]
        congr 2
        refine propext ⟨fun ⟨j, j1, j2⟩ => ⟨j, by omega, j2⟩, fun ⟨j, j1, j2⟩ => ⟨j, ?_, j2⟩⟩
        by_cases q : j = k
        · subst q; exact absurd j2.symm e
        · omega
  rw [e_X10_round_107]
  by_cases d : ∃ j, j < k ∧ ol F n v j = ol F n v k
  · have nw : nwd F n v k = false := decide_eq_false (fun q => by obtain ⟨j, j1, j2⟩ := d; exact q j j1 ((ob_ol hw j k).2 j2))
    have ce : cnd F n v (k + 1) = cnd F n v k := by
      show cnd F n v k + (if nwd F n v k = true then 1 else 0) = _
      rw [nw]; rfl
    have b1 : bI true = 1 := rfl
    rw [decide_eq_true d, b1] at hb
    rw [ce] at fin
    simp (disch := omega) only [↓reduceIte, ic_t, ic_f, not_true_eq_false, not_false_eq_true, ↓lt_v, rdR, rdE, rdS, leT, leTc, leTd, leF, leFc, leFd, ltT, ltTc, ltTd, ltF, ltFc, ltFd, eqT, eqTc, eqTd, eqF, eqFc, eqFd, m1T, m1F, m1T', m1F', inb_nI, ix_nI, inb_c, ix_c, nI_1, nI_pred, nI_m1, add_nIc, add_cnI, bd_v, reduceCtorEq, eqFcc, m1e0, m1e1, m1l0, m1g0, m2l0, m2g0, Int32.reduceLT, Int32.reduceLE, Int32.reduceAdd, Int32.reduceSub, Int32.reduceMul, eq_self, Bool.false_eq_true, hb, e_X10_round_123, f0, z1]
    rw [Nat.add_zero]
    exact fin
  · have nw : nwd F n v k = true := decide_eq_true (fun j j1 j2 => d ⟨j, j1, (ob_ol hw j k).1 j2⟩)
    have ce : cnd F n v (k + 1) = cnd F n v k + 1 := by
      show cnd F n v k + (if nwd F n v k = true then 1 else 0) = _
      rw [nw]; rfl
    have b0 : bI false = 0 := rfl
    rw [decide_eq_false d, b0] at hb
    rw [ce] at fin
    simp (disch := omega) only [↓reduceIte, ic_t, ic_f, not_true_eq_false, not_false_eq_true, ↓lt_v, rdR, rdE, rdS, leT, leTc, leTd, leF, leFc, leFd, ltT, ltTc, ltTd, ltF, ltFc, ltFd, eqT, eqTc, eqTd, eqF, eqFc, eqFd, m1T, m1F, m1T', m1F', inb_nI, ix_nI, inb_c, ix_c, nI_1, nI_pred, nI_m1, add_nIc, add_cnI, bd_v, reduceCtorEq, eqFcc, m1e0, m1e1, m1l0, m1g0, m2l0, m2g0, Int32.reduceLT, Int32.reduceLE, Int32.reduceAdd, Int32.reduceSub, Int32.reduceMul, eq_self, Bool.false_eq_true, hb, e_X10_round_123, f1, z1]
    exact fin
theorem r_round {M : Mem} {n : Nat} {v : VV} {F : (Nat → Int32) → Int32} (hc : RR n v F M) :
    Ok (fX10_round M) (QR (if rq F n v = 0 then -2 else nI (rq F n v)) (if rq F n v = 0 then none else some [(nI (cnd F n v (rq F n v))).toInt64]) M) := by
  have hn : n ≤ 6 := hc.1.1
  have hw := hc.1
  obtain ⟨hc0, hf0⟩ := r_thrown0 hc
  rw [e_X10_round]
  simp (disch := omega) only [↓reduceIte, ic_t, ic_f, not_true_eq_false, not_false_eq_true, ↓lt_v, rdR, rdE, rdS, leT, leTc, leTd, leF, leFc, leFd, ltT, ltTc, ltTd, ltF, ltFc, ltFd, eqT, eqTc, eqTd, eqF, eqFc, eqFd, m1T, m1F, m1T', m1F', inb_nI, ix_nI, inb_c, ix_c, nI_1, nI_pred, nI_m1, add_nIc, add_cnI, bd_v, reduceCtorEq, eqFcc, m1e0, m1e1, m1l0, m1g0, m2l0, m2g0, Int32.reduceLT, Int32.reduceLE, Int32.reduceAdd, Int32.reduceSub, Int32.reduceMul, eq_self, Bool.false_eq_true]
  refine r_then hc0 (fun M1 g1 g2 g3 => ?_)
  have z0 : (0 &&& 1 : Int32) = 0 := by decide
  have hl := ol_lt (F := F) hw 0
  have hFU : 2000 < FU := FU_big
  generalize FU = fu0 at hFU ⊢
  refine ok_loop 720 (fun fu k s => fX10_round_11 fu (nI k) s) (fun k s => (∀ j, j < k → s.1 191 j = 0) ∧ TrR n v F M s ∧ ∀ i, i < 22 → s.1 171 i = v.1 i) ?_ ?_ fu0 0 M1 (by omega) (by omega) ⟨fun j hj => absurd hj (Nat.not_lt_zero _), ⟨g1, g2.2.1, g2.2.2.2, frR_trans hf0 g3⟩, g2.2.2.1⟩
  · intro fu k s hk hs ih
    obtain ⟨b1, ⟨h1, h2, h3, h4⟩, b3⟩ := hs
    rw [e_X10_round_11]
    simp (disch := omega) only [↓reduceIte, ic_t, ic_f, not_true_eq_false, not_false_eq_true, ↓lt_v, rdR, rdE, rdS, leT, leTc, leTd, leF, leFc, leFd, ltT, ltTc, ltTd, ltF, ltFc, ltFd, eqT, eqTc, eqTd, eqF, eqFc, eqFd, m1T, m1F, m1T', m1F', inb_nI, ix_nI, inb_c, ix_c, nI_1, nI_pred, nI_m1, add_nIc, add_cnI, bd_v, reduceCtorEq, eqFcc, m1e0, m1e1, m1l0, m1g0, m2l0, m2g0, Int32.reduceLT, Int32.reduceLE, Int32.reduceAdd, Int32.reduceSub, Int32.reduceMul, eq_self, Bool.false_eq_true, z0]
    refine ih _ ⟨fun j hj => ?_, ⟨fun i hi => by simp (disch := omega) only [↓reduceIte, ic_t, ic_f, not_true_eq_false, not_false_eq_true, ↓lt_v, rdR, rdE, rdS, leT, leTc, leTd, leF, leFc, leFd, ltT, ltTc, ltTd, ltF, ltFc, ltFd, eqT, eqTc, eqTd, eqF, eqFc, eqFd, m1T, m1F, m1T', m1F', inb_nI, ix_nI, inb_c, ix_c, nI_1, nI_pred, nI_m1, add_nIc, add_cnI, bd_v, reduceCtorEq, eqFcc, m1e0, m1e1, m1l0, m1g0, m2l0, m2g0, Int32.reduceLT, Int32.reduceLE, Int32.reduceAdd, Int32.reduceSub, Int32.reduceMul, eq_self, Bool.false_eq_true]; exact h1 i hi, by simp (disch := omega) only [↓reduceIte, ic_t, ic_f, not_true_eq_false, not_false_eq_true, ↓lt_v, rdR, rdE, rdS, leT, leTc, leTd, leF, leFc, leFd, ltT, ltTc, ltTd, ltF, ltFc, ltFd, eqT, eqTc, eqTd, eqF, eqFc, eqFd, m1T, m1F, m1T', m1F', inb_nI, ix_nI, inb_c, ix_c, nI_1, nI_pred, nI_m1, add_nIc, add_cnI, bd_v, reduceCtorEq, eqFcc, m1e0, m1e1, m1l0, m1g0, m2l0, m2g0, Int32.reduceLT, Int32.reduceLE, Int32.reduceAdd, Int32.reduceSub, Int32.reduceMul, eq_self, Bool.false_eq_true]; exact h2, ruR_fr h3 (by simp (disch := omega) only [row_n]) (by simp (disch := omega) only [↓reduceIte, ic_t, ic_f, not_true_eq_false, not_false_eq_true, ↓lt_v, rdR, rdE, rdS, leT, leTc, leTd, leF, leFc, leFd, ltT, ltTc, ltTd, ltF, ltFc, ltFd, eqT, eqTc, eqTd, eqF, eqFc, eqFd, m1T, m1F, m1T', m1F', inb_nI, ix_nI, inb_c, ix_c, nI_1, nI_pred, nI_m1, add_nIc, add_cnI, bd_v, reduceCtorEq, eqFcc, m1e0, m1e1, m1l0, m1g0, m2l0, m2g0, Int32.reduceLT, Int32.reduceLE, Int32.reduceAdd, Int32.reduceSub, Int32.reduceMul, eq_self, Bool.false_eq_true]), frR_trans h4 (frR_sI (by unfold SR; omega) (by omega))⟩, fun i hi => by simp (disch := omega) only [↓reduceIte, ic_t, ic_f, not_true_eq_false, not_false_eq_true, ↓lt_v, rdR, rdE, rdS, leT, leTc, leTd, leF, leFc, leFd, ltT, ltTc, ltTd, ltF, ltFc, ltFd, eqT, eqTc, eqTd, eqF, eqFc, eqFd, m1T, m1F, m1T', m1F', inb_nI, ix_nI, inb_c, ix_c, nI_1, nI_pred, nI_m1, add_nIc, add_cnI, bd_v, reduceCtorEq, eqFcc, m1e0, m1e1, m1l0, m1g0, m2l0, m2g0, Int32.reduceLT, Int32.reduceLE, Int32.reduceAdd, Int32.reduceSub, Int32.reduceMul, eq_self, Bool.false_eq_true]; exact b3 i hi⟩
    by_cases e : j = k
    · subst e; simp (disch := omega) only [↓reduceIte, ic_t, ic_f, not_true_eq_false, not_false_eq_true, ↓lt_v, rdR, rdE, rdS, leT, leTc, leTd, leF, leFc, leFd, ltT, ltTc, ltTd, ltF, ltFc, ltFd, eqT, eqTc, eqTd, eqF, eqFc, eqFd, m1T, m1F, m1T', m1F', inb_nI, ix_nI, inb_c, ix_c, nI_1, nI_pred, nI_m1, add_nIc, add_cnI, bd_v, reduceCtorEq, eqFcc, m1e0, m1e1, m1l0, m1g0, m2l0, m2g0, Int32.reduceLT, Int32.reduceLE, Int32.reduceAdd, Int32.reduceSub, Int32.reduceMul, eq_self, Bool.false_eq_true]
    · simp (disch := omega) only [↓reduceIte, ic_t, ic_f, not_true_eq_false, not_false_eq_true, ↓lt_v, rdR, rdE, rdS, leT, leTc, leTd, leF, leFc, leFd, ltT, ltTc, ltTd, ltF, ltFc, ltFd, eqT, eqTc, eqTd, eqF, eqFc, eqFd, m1T, m1F, m1T', m1F', inb_nI, ix_nI, inb_c, ix_c, nI_1, nI_pred, nI_m1, add_nIc, add_cnI, bd_v, reduceCtorEq, eqFcc, m1e0, m1e1, m1l0, m1g0, m2l0, m2g0, Int32.reduceLT, Int32.reduceLE, Int32.reduceAdd, Int32.reduceSub, Int32.reduceMul, eq_self, Bool.false_eq_true]; exact b1 j (by omega)
  · intro fu s hs
    obtain ⟨b1, ⟨h1, h2, h3, h4⟩, b3⟩ := hs
    rw [e_X10_round_11]
    simp (disch := omega) only [↓reduceIte, ic_t, ic_f, not_true_eq_false, not_false_eq_true, ↓lt_v, rdR, rdE, rdS, leT, leTc, leTd, leF, leFc, leFd, ltT, ltTc, ltTd, ltF, ltFc, ltFd, eqT, eqTc, eqTd, eqF, eqFc, eqFd, m1T, m1F, m1T', m1F', inb_nI, ix_nI, inb_c, ix_c, nI_1, nI_pred, nI_m1, add_nIc, add_cnI, bd_v, reduceCtorEq, eqFcc, m1e0, m1e1, m1l0, m1g0, m2l0, m2g0, Int32.reduceLT, Int32.reduceLE, Int32.reduceAdd, Int32.reduceSub, Int32.reduceMul, eq_self, Bool.false_eq_true]
    refine ok_call (r_laysStanding hw ln171 (by rw [ln189]; omega) (by rw [ln189]; omega) (by omega) (by omega) h2 b3) (fun M2 g => ?_)
    obtain ⟨k1, k2⟩ := g
    have e0 : M2.1 169 3 = nI n := by rw [k2.2.1 3 (fun q => q)]; exact h2
    rw [r_numberOf (o := v.2) hn (by rw [ln189]; omega) (by rw [ln189]; omega) e0 (fun i hi => ⟨k1 i hi, by have := (wf_prm hw).1 i hi; omega⟩)]
    have eo : lh n v.2 n = ol F n v 0 := rfl
    have t0 : TrR n (days F n 0 v) F M M2 := ⟨fun i hi => by rw [k2.1 172 (by omega) (by omega)]; exact h1 i hi, e0, ruR_fr h3 (k2.1 175 (by omega) (by omega)) (k2.2.1 16 (fun q => q)), frR_trans h4 (frR_sub k2 (fun b _ hb => by unfold SR; omega) (fun i hi => hi.elim))⟩
    have s0 : SnR F n v 0 M2 := fun y hy => by
      rw [k2.1 191 (by omega) (by omega), b1 y hy, decide_eq_false (fun ⟨j, j1, _⟩ => absurd j1 (Nat.not_lt_zero _))]
      rfl
    rw [bd_v, eo]
    show Ok (fX10_round_56 _ (nI (ol F n v 0)) (nI (cnd F n v 0)) (nI 0) M2) _
    have hFU : 2000 < FU := FU_big
    generalize FU = fu1 at hFU ⊢
    obtain ⟨fu1, rfl⟩ : ∃ m, fu1 = m + 1 := ⟨fu1 - 1, by omega⟩
    rw [e_X10_round_56]
    simp (disch := omega) only [↓reduceIte, ic_t, ic_f, not_true_eq_false, not_false_eq_true, ↓lt_v, rdR, rdE, rdS, leT, leTc, leTd, leF, leFc, leFd, ltT, ltTc, ltTd, ltF, ltFc, ltFd, eqT, eqTc, eqTd, eqF, eqFc, eqFd, m1T, m1F, m1T', m1F', inb_nI, ix_nI, inb_c, ix_c, nI_1, nI_pred, nI_m1, add_nIc, add_cnI, bd_v, reduceCtorEq, eqFcc, m1e0, m1e1, m1l0, m1g0, m2l0, m2g0, Int32.reduceLT, Int32.reduceLE, Int32.reduceAdd, Int32.reduceSub, Int32.reduceMul, eq_self, Bool.false_eq_true]
    refine r_num hw t0 s0 (fun q q1 q2 => ?_)
    simp (disch := omega) only [↓reduceIte, ic_t, ic_f, not_true_eq_false, not_false_eq_true, ↓lt_v, rdR, rdE, rdS, leT, leTc, leTd, leF, leFc, leFd, ltT, ltTc, ltTd, ltF, ltFc, ltFd, eqT, eqTc, eqTd, eqF, eqFc, eqFd, m1T, m1F, m1T', m1F', inb_nI, ix_nI, inb_c, ix_c, nI_1, nI_pred, nI_m1, add_nIc, add_cnI, bd_v, reduceCtorEq, eqFcc, m1e0, m1e1, m1l0, m1g0, m2l0, m2g0, Int32.reduceLT, Int32.reduceLE, Int32.reduceAdd, Int32.reduceSub, Int32.reduceMul, eq_self, Bool.false_eq_true]
    refine r_mark hw (by omega) q1 q2 (fun p p1 p2 => ?_)
    refine ok_loop 60 (fun fu k s => fX10_round_56 fu (nI (ol F n v 0)) (nI (cnd F n v (k + 1))) (nI (k + 1)) s) (fun k s => (∀ j, j < k → decide (ob F n v (j + 1) = ob F n v 0) = false) ∧ TrR n (days F n (k + 1) v) F M s ∧ SnR F n v (k + 1) s) ?_ ?_ fu1 0 p (by omega) (by omega) ⟨fun j hj => absurd hj (Nat.not_lt_zero _), p1, p2⟩
    · intro fu k s hk hs ih
      obtain ⟨c2, c3, c4⟩ := hs
      have hl2 := ol_lt (F := F) hw (k + 1)
      rw [e_X10_round_56]
      simp (disch := omega) only [↓reduceIte, ic_t, ic_f, not_true_eq_false, not_false_eq_true, ↓lt_v, rdR, rdE, rdS, leT, leTc, leTd, leF, leFc, leFd, ltT, ltTc, ltTd, ltF, ltFc, ltFd, eqT, eqTc, eqTd, eqF, eqFc, eqFd, m1T, m1F, m1T', m1F', inb_nI, ix_nI, inb_c, ix_c, nI_1, nI_pred, nI_m1, add_nIc, add_cnI, bd_v, reduceCtorEq, eqFcc, m1e0, m1e1, m1l0, m1g0, m2l0, m2g0, Int32.reduceLT, Int32.reduceLE, Int32.reduceAdd, Int32.reduceSub, Int32.reduceMul, eq_self, Bool.false_eq_true]
      refine r_num hw c3 c4 (fun q q1 q2 => ?_)
      by_cases c : ob F n v (k + 1) = ob F n v 0
      · have er : rq F n v = k + 1 := nx1 hk (decide_eq_true c) c2
        have ee : ol F n v (k + 1) = ol F n v 0 := (ob_ol hw _ _).1 c
        rw [er]
        simp (disch := omega) only [↓reduceIte, ic_t, ic_f, not_true_eq_false, not_false_eq_true, ↓lt_v, rdR, rdE, rdS, leT, leTc, leTd, leF, leFc, leFd, ltT, ltTc, ltTd, ltF, ltFc, ltFd, eqT, eqTc, eqTd, eqF, eqFc, eqFd, m1T, m1F, m1T', m1F', inb_nI, ix_nI, inb_c, ix_c, nI_1, nI_pred, nI_m1, add_nIc, add_cnI, bd_v, reduceCtorEq, eqFcc, m1e0, m1e1, m1l0, m1g0, m2l0, m2g0, Int32.reduceLT, Int32.reduceLE, Int32.reduceAdd, Int32.reduceSub, Int32.reduceMul, eq_self, Bool.false_eq_true]
        refine r_tell1 (kr_1 q1.2.2.2) (fun M2 w1 w2 w3 w4 => ok_some ⟨?_, w1, ?_⟩)
        · rfl
        · exact w2
      · have ee : ¬ ol F n v (k + 1) = ol F n v 0 := fun q => c ((ob_ol hw _ _).2 q)
        simp (disch := omega) only [↓reduceIte, ic_t, ic_f, not_true_eq_false, not_false_eq_true, ↓lt_v, rdR, rdE, rdS, leT, leTc, leTd, leF, leFc, leFd, ltT, ltTc, ltTd, ltF, ltFc, ltFd, eqT, eqTc, eqTd, eqF, eqFc, eqFd, m1T, m1F, m1T', m1F', inb_nI, ix_nI, inb_c, ix_c, nI_1, nI_pred, nI_m1, add_nIc, add_cnI, bd_v, reduceCtorEq, eqFcc, m1e0, m1e1, m1l0, m1g0, m2l0, m2g0, Int32.reduceLT, Int32.reduceLE, Int32.reduceAdd, Int32.reduceSub, Int32.reduceMul, eq_self, Bool.false_eq_true]
        refine r_mark hw (by omega) q1 q2 (fun p p1 p2 => ih p ⟨fun j hj => ?_, p1, p2⟩)
        by_cases e : j = k
        · subst e; exact decide_eq_false c
        · exact c2 j (by omega)
    · intro fu s hs
      obtain ⟨c2, c3, c4⟩ := hs
      have e : rq F n v = 0 := nx0 c2
      rw [e_X10_round_56, e]
      simp (disch := omega) only [↓reduceIte, ic_t, ic_f, not_true_eq_false, not_false_eq_true, ↓lt_v, rdR, rdE, rdS, leT, leTc, leTd, leF, leFc, leFd, ltT, ltTc, ltTd, ltF, ltFc, ltFd, eqT, eqTc, eqTd, eqF, eqFc, eqFd, m1T, m1F, m1T', m1F', inb_nI, ix_nI, inb_c, ix_c, nI_1, nI_pred, nI_m1, add_nIc, add_cnI, bd_v, reduceCtorEq, eqFcc, m1e0, m1e1, m1l0, m1g0, m2l0, m2g0, Int32.reduceLT, Int32.reduceLE, Int32.reduceAdd, Int32.reduceSub, Int32.reduceMul, eq_self, Bool.false_eq_true]
      exact ok_some (qr_none c3.2.2.2)
theorem st_round {M : Mem} (h : Rel M) : StI (fun M => fX9_round M) (fun M => fX10_round M) M := by
  obtain ⟨S, hS, hc, hr⟩ := h
  refine st_q hS hc hr (fun l' e => ?_) (c_round hc.1) (fun M1 h1 => r_round h1.1)
  split at e
  · cases e
  · cases e; simp
