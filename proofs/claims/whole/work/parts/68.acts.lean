/-! PURE: acts -/
def setV (S : SP) (v : VV) : SP := ((S.1.1, v, S.1.2.2), S.2)
def actS (S : SP) (v : VV) : SP := ((S.1.1, v, S.1.2.2), S.2.1, S.2.2.1, pushU S.2.2.2.1.1 S.2.2.2.1.2 S.1.2.1, S.2.2.2.2)
theorem ok_actS {S : SP} {v : VV} (h : spOK S) (hv : WfV S.1.1 v) : spOK (actS S v) := by
  refine ⟨hv, h.2.1, ?_, fun j hj => ?_, h.2.2.2.2⟩
  · show (pushU S.2.2.2.1.1 S.2.2.2.1.2 S.1.2.1).1 ≤ 15
    unfold pushU
    split
    · show _ + 1 ≤ 15; omega
    · exact Nat.le_refl _
  · have hj : j < (pushU S.2.2.2.1.1 S.2.2.2.1.2 S.1.2.1).1 := hj
    show WfV S.1.1 ((pushU S.2.2.2.1.1 S.2.2.2.1.2 S.1.2.1).2 j)
    unfold pushU at hj ⊢
    by_cases c : S.2.2.2.1.1 < 15
    · rw [if_pos c] at hj ⊢
      have hj : j < S.2.2.2.1.1 + 1 := hj
      show WfV S.1.1 (up1 S.2.2.2.1.2 S.2.2.2.1.1 S.1.2.1 j)
      by_cases e : j = S.2.2.2.1.1
      · rw [up1_e e]; exact h.1
      · rw [up1_n e]; exact h.2.2.2.1 j (by omega)
    · rw [if_neg c] at hj ⊢
      have h15 := h.2.2.1
      have hj : j < 15 := hj
      show WfV S.1.1 (if j < 14 then S.2.2.2.1.2 (j + 1) else S.1.2.1)
      split
      · exact h.2.2.2.1 (j + 1) (by omega)
      · exact h.1
/-- another river, another past -/
theorem crel_make {S S' : SP} {M M' : Mem} (h : CRel S M) (e : S'.1.1 = S.1.1 ∧ S'.1.2.2 = S.1.2.2 ∧ S'.2.1 = S.2.1 ∧ S'.2.2.1 = S.2.2.1 ∧ S'.2.2.2.2 = S.2.2.2.2) (hw : WfV S'.1.1 S'.1.2.1) (e1 : ∀ a, ¬ (6 ≤ a ∧ a ≤ 102) → ¬ SC a → M'.1 a = M.1 a) (e2 : M'.2.1 = M.2.1) (e3 : ∀ a i, a ≠ 27 → M'.2.2 a i = M.2.2 a i) (hv : RvC 6 S'.1.1 S'.1.2.1 M') (hp : PsC S'.1.1 S'.2.2.2.1.1 S'.2.2.2.1.2 M') : CRel S' M' := by
  obtain ⟨h1, h2, h3, h4, h5, h6, h7, h8⟩ := h
  obtain ⟨a1, a2, a3, a4, a5⟩ := e
  have hR := h1.2.2.2.2
  have e17 := e3 1 17 (by omega)
  refine ⟨⟨hw, hv, ?_, rfl, by rw [e17]; exact hR⟩, ?_, ?_, ?_, hp, ?_, ?_, ?_⟩
  · rw [e17, a2]; exact ruC_fr h1.2.2.1 (e1 _ (by omega) (by unfold SC; omega)) (e1 _ (by omega) (by unfold SC; omega))
  · rw [e17, e3 1 18 (by omega)]; exact h2
  · rw [a3]; unfold TxC; rw [e1 2 (by omega) (by unfold SC; omega), e1 3 (by omega) (by unfold SC; omega)]; exact h3
  · rw [a4]; unfold RwC; rw [e1 4 (by omega) (by unfold SC; omega), e2]; exact h4
  · rw [a5, a1]; unfold KpC; rw [e1 104 (by omega) (by unfold SC; omega)]
    intro i hi
    rw [e3 103 i (by omega)]
    exact ⟨(h6 i hi).1, fun hk => rivC_fr ((h6 i hi).2 hk) (fun a h1 h2 => e1 a (by omega) (by unfold SC; omega))⟩
  · rw [a5]; unfold HC; rw [e1 105 (by omega) (by unfold SC; omega), e1 106 (by omega) (by unfold SC; omega), e1 107 (by omega) (by unfold SC; omega)]; exact h7
  · unfold LawP; rw [e1 115 (by omega) (by unfold SC; omega), e1 137 (by omega) (by unfold SC; omega)]; exact h8
theorem c_act {S : SP} {M : Mem} {act : Mem → Option (Int32 × Mem)} {x : Int32} {v : VV} (hS : spOK S) (hc : CRel S M) (hw : WfV S.1.1 v)
    (hact : ∀ M1, RvC 6 S.1.1 S.1.2.1 M1 → Ok (act M1) (fun q => q.1 = x ∧ RvC 6 S.1.1 v q.2 ∧ Fr (fun a => 6 ≤ a ∧ a ≤ 10) M1 q.2)) :
    Ok ((fX4_copyFrom 11 6 M).bind fun q1 => (act q1).bind fun q3 => (fX9_noted q3.1 q3.2).bind fun q5 => some (q5.1, q5.2)) (fun q => q.1 = x ∧ CRel (if x < 0 then setV S v else actS S v) q.2 ∧ CFr M q.2) := by
  have hn : S.1.1 ≤ 6 := hS.1.1
  have hc0 := hc
  obtain ⟨h1, h2, h3, h4, h5, h6, h7, h8⟩ := hc
  refine ok_call (c_copy (r := 11) (r2 := 6) hn (by omega) h1.2.1) (fun M1 g => ?_)
  obtain ⟨g1, g2⟩ := g
  have hv1 : RvC 6 S.1.1 S.1.2.1 M1 := rivC_fr h1.2.1 (fun a a1 a2 => g2.1 a (by omega))
  refine ok_call (hact M1 hv1) (fun q k => ?_)
  obtain ⟨k1, k2, k3⟩ := k
  have er : q.2.2.2 = M.2.2 := by rw [k3.2, g2.2]
  have hps : PsC S.1.1 S.2.2.2.1.1 S.2.2.2.1.2 q.2 := by
    unfold PsC
    rw [k3.1 26 (by omega), g2.1 26 (by omega), er]
    refine ⟨h5.1, h5.2.1, h5.2.2.1, h5.2.2.2.1, fun j hj => ?_⟩
    obtain ⟨c, hc, ec⟩ := h5.2.2.1 j (by have := h5.1; omega)
    exact rivC_fr (h5.2.2.2.2 j hj) (fun a h1 h2 => by rw [k3.1 a (by omega), g2.1 a (by omega)])
  rw [e_X9_noted, k1]
  by_cases hx : x < 0
  · rw [ic_pos hx, if_pos hx]
    simp (disch := omega) only [↓reduceIte, ic_t, ic_f, not_true_eq_false, not_false_eq_true, ↓lt_v, rdR, rdE, rdS, leT, leTc, leTd, leF, leFc, leFd, ltT, ltTc, ltTd, ltF, ltFc, ltFd, eqT, eqTc, eqTd, eqF, eqFc, eqFd, m1T, m1F, m1T', m1F', inb_nI, ix_nI, inb_c, ix_c, nI_1, nI_pred, nI_m1, add_nIc, add_cnI, bd_v, reduceCtorEq, eqFcc, m1e0, m1e1, m1l0, m1g0, m2l0, m2g0, Int32.reduceLT, Int32.reduceLE, Int32.reduceAdd, Int32.reduceSub, Int32.reduceMul, eq_self, Bool.false_eq_true]
    refine ok_some ⟨rfl, crel_make hc0 ⟨rfl, rfl, rfl, rfl, rfl⟩ hw (fun a ha ha2 => ?_) ?_ (fun a i _ => ?_) ?_ hps, fun a ha => ⟨?_, ?_⟩⟩
    · rw [k3.1 a (by omega), g2.1 a (by unfold SC at ha2; omega)]
    · show q.2.2.1 = _
      rw [k3.2, g2.2]
    · show q.2.2.2 a i = _
      rw [er]
    · exact k2
    · rw [k3.1 a (by omega), g2.1 a (by omega)]
    · show q.2.2.1 a = _
      rw [k3.2, g2.2]
  · rw [ic_neg hx, if_neg hx]
    have hb : RvC 11 S.1.1 S.1.2.1 q.2 := rivC_fr g1 (fun a h1 h2 => k3.1 a (by omega))
    refine ok_bind (ok_call (c_push hn hps hb (Or.inr rfl)) (fun M2 p => ok_some ?_))
    obtain ⟨p1, p2⟩ := p
    refine ok_some ⟨rfl, crel_make hc0 ⟨rfl, rfl, rfl, rfl, rfl⟩ hw (fun a ha ha2 => ?_) ?_ (fun a i ha => ?_) ?_ p1, fun a ha => ⟨?_, ?_⟩⟩
    · rw [p2.1 a (by omega), k3.1 a (by omega), g2.1 a (by unfold SC at ha2; omega)]
    · rw [p2.2.1, k3.2, g2.2]
    · rw [p2.2.2 a i ha, er]
    · exact rivC_fr k2 (fun a h1 h2 => p2.1 a (by omega))
    · rw [p2.1 a (by omega), k3.1 a (by omega), g2.1 a (by omega)]
    · show M2.2.1 a = _
      rw [p2.2.1, k3.2, g2.2]
theorem rrel_make {S S' : SP} {M M' : Mem} (h : RRel S M) (e : S'.1.1 = S.1.1 ∧ S'.1.2.2 = S.1.2.2 ∧ S'.2.1 = S.2.1 ∧ S'.2.2.1 = S.2.2.1 ∧ S'.2.2.2.2 = S.2.2.2.2) (hw : WfV S'.1.1 S'.1.2.1) (e1 : ∀ a, a ≠ 169 → a ≠ 171 → a ≠ 185 → ¬ SR a → M'.1 a = M.1 a) (es : ∀ i, i ≠ 28 → i ≠ 1 → ¬ SS i → M'.1 169 i = M.1 169 i) (es1 : M'.1 169 1 = M.1 169 1) (e2 : M'.2.1 = M.2.1) (hv : ∀ i, i < 22 → M'.1 171 i = S'.1.2.1.1 i) (hp : PsR S'.1.1 S'.2.2.2.1.1 S'.2.2.2.1.2 M') : RRel S' M' := by
  obtain ⟨h1, h2, h3, h4, h5, h6⟩ := h
  obtain ⟨a1, a2, a3, a4, a5⟩ := e
  refine ⟨⟨hw, ?_, hv, ?_⟩, ?_, ?_, hp, ?_, ?_⟩
  · rw [es 3 (by omega) (by omega) (by unfold SS; omega), a1]; exact h1.2.1
  · rw [a2]; exact ruR_fr h1.2.2.2 (e1 175 (by omega) (by omega) (by omega) (by unfold SR; omega)) (es 16 (by omega) (by omega) (by unfold SS; omega))
  · rw [a3]; unfold TxR; rw [es 8 (by omega) (by omega) (by unfold SS; omega), e1 173 (by omega) (by omega) (by omega) (by unfold SR; omega)]; exact h2
  · rw [a4]; unfold RwR; rw [es1, e2]; exact h3
  · rw [a5, a1]; unfold KpR; rw [es 4 (by omega) (by omega) (by unfold SS; omega), e1 202 (by omega) (by omega) (by omega) (by unfold SR; omega), e1 203 (by omega) (by omega) (by omega) (by unfold SR; omega), e1 204 (by omega) (by omega) (by omega) (by unfold SR; omega)]; exact h5
  · rw [a5]; unfold HR; rw [es 45 (by omega) (by omega) (by unfold SS; omega), e1 198 (by omega) (by omega) (by omega) (by unfold SR; omega), e1 199 (by omega) (by omega) (by omega) (by unfold SR; omega)]; exact h6
theorem r_act {S : SP} {M : Mem} {act : Mem → Option (Int32 × Mem)} {x : Int32} {v : VV} (hS : spOK S) (hr : RRel S M) (hw : WfV S.1.1 v)
    (hact : ∀ M1, M1.1 169 3 = nI S.1.1 → (∀ i, i < 22 → M1.1 171 i = S.1.2.1.1 i) → Ok (act M1) (fun q => q.1 = x ∧ (∀ i, i < 22 → q.2.1 171 i = v.1 i) ∧ FrR (fun a => a = 171) (fun _ => False) M1 q.2)) :
    Ok ((fX10_putsBy (sI M 169 0 0)).bind fun q3 => (act q3).bind fun q5 => (fX10_counted q5.1 q5.2).bind fun q7 => some (q7.1, q7.2)) (fun q => q.1 = x ∧ RRel (if x < 0 then setV S v else actS S v) q.2 ∧ RFr M q.2) := by
  have hr0 := hr
  have h15 := hS.2.2.1
  obtain ⟨h1, h2, h3, h4, h5, h6⟩ := hr
  refine ok_call (r_putsBy (P := S.2.2.2.1.1) h15 (by simp (disch := omega) only [↓reduceIte, ic_t, ic_f, not_true_eq_false, not_false_eq_true, ↓lt_v, rdR, rdE, rdS, leT, leTc, leTd, leF, leFc, leFd, ltT, ltTc, ltTd, ltF, ltFc, ltFd, eqT, eqTc, eqTd, eqF, eqFc, eqFd, m1T, m1F, m1T', m1F', inb_nI, ix_nI, inb_c, ix_c, nI_1, nI_pred, nI_m1, add_nIc, add_cnI, bd_v, reduceCtorEq, eqFcc, m1e0, m1e1, m1l0, m1g0, m2l0, m2g0, Int32.reduceLT, Int32.reduceLE, Int32.reduceAdd, Int32.reduceSub, Int32.reduceMul, eq_self, Bool.false_eq_true, h4.1])) (fun M1 g => ?_)
  obtain ⟨g1, g2, g3⟩ := g
  have e3 : M1.1 169 3 = nI S.1.1 := by rw [g3.2.1 3 (fun q => q)]; simp (disch := omega) only [↓reduceIte, ic_t, ic_f, not_true_eq_false, not_false_eq_true, ↓lt_v, rdR, rdE, rdS, leT, leTc, leTd, leF, leFc, leFd, ltT, ltTc, ltTd, ltF, ltFc, ltFd, eqT, eqTc, eqTd, eqF, eqFc, eqFd, m1T, m1F, m1T', m1F', inb_nI, ix_nI, inb_c, ix_c, nI_1, nI_pred, nI_m1, add_nIc, add_cnI, bd_v, reduceCtorEq, eqFcc, m1e0, m1e1, m1l0, m1g0, m2l0, m2g0, Int32.reduceLT, Int32.reduceLE, Int32.reduceAdd, Int32.reduceSub, Int32.reduceMul, eq_self, Bool.false_eq_true, h1.2.1]
  have e171 : ∀ i, i < 22 → M1.1 171 i = S.1.2.1.1 i := fun i hi => by rw [g3.1 171 (by omega) (by omega)]; simp (disch := omega) only [↓reduceIte, ic_t, ic_f, not_true_eq_false, not_false_eq_true, ↓lt_v, rdR, rdE, rdS, leT, leTc, leTd, leF, leFc, leFd, ltT, ltTc, ltTd, ltF, ltFc, ltFd, eqT, eqTc, eqTd, eqF, eqFc, eqFd, m1T, m1F, m1T', m1F', inb_nI, ix_nI, inb_c, ix_c, nI_1, nI_pred, nI_m1, add_nIc, add_cnI, bd_v, reduceCtorEq, eqFcc, m1e0, m1e1, m1l0, m1g0, m2l0, m2g0, Int32.reduceLT, Int32.reduceLE, Int32.reduceAdd, Int32.reduceSub, Int32.reduceMul, eq_self, Bool.false_eq_true]; exact h1.2.2.1 i hi
  refine ok_call (hact M1 e3 e171) (fun q k => ?_)
  obtain ⟨k1, k2, k3⟩ := k
  have f1 : ∀ a, a ≠ 169 → a ≠ 171 → a ≠ 185 → q.2.1 a = M.1 a := fun a b1 b2 b3 => by rw [k3.1 a b1 b2, g3.1 a b1 b3, row_n b1]
  have f2 : ∀ i, i ≠ 0 → q.2.1 169 i = M.1 169 i := fun i hi => by rw [k3.2.1 i (fun q => q), g3.2.1 i (fun q => q), rdS hi]
  have f3 : q.2.2 = M.2 := by rw [k3.2.2, g3.2.2]; rfl
  have e28 : q.2.1 169 28 = nI S.2.2.2.1.1 := by rw [f2 28 (by omega)]; exact h4.1
  have r185 : q.2.1 185 = M1.1 185 := k3.1 185 (by omega) (by omega)
  have old : ∀ j, j < S.2.2.2.1.1 → ∀ i, i < 22 → q.2.1 185 (22 * j + i) = (S.2.2.2.1.2 j).1 i := fun j hj i hi => by
    rw [r185, g2 _ (by omega), rdR (by omega)]
    exact h4.2 j hj i hi
  rw [e_X10_counted, k1]
  by_cases hx : x < 0
  · rw [ic_neg (by rw [Int32.le_iff_toInt_le]; rw [Int32.lt_iff_toInt_lt] at hx; omega), if_pos hx]
    simp (disch := omega) only [↓reduceIte, ic_t, ic_f, not_true_eq_false, not_false_eq_true, ↓lt_v, rdR, rdE, rdS, leT, leTc, leTd, leF, leFc, leFd, ltT, ltTc, ltTd, ltF, ltFc, ltFd, eqT, eqTc, eqTd, eqF, eqFc, eqFd, m1T, m1F, m1T', m1F', inb_nI, ix_nI, inb_c, ix_c, nI_1, nI_pred, nI_m1, add_nIc, add_cnI, bd_v, reduceCtorEq, eqFcc, m1e0, m1e1, m1l0, m1g0, m2l0, m2g0, Int32.reduceLT, Int32.reduceLE, Int32.reduceAdd, Int32.reduceSub, Int32.reduceMul, eq_self, Bool.false_eq_true]
    refine ok_some ⟨rfl, rrel_make hr0 ⟨rfl, rfl, rfl, rfl, rfl⟩ hw (fun a b1 b2 b3 _ => f1 a b1 b2 b3) (fun i _ _ hi => f2 i (fun q => hi (by unfold SS; omega))) (f2 1 (by omega)) (by rw [f3]) ?_ ⟨e28, old⟩, fun a ha => ⟨f1 a (by omega) (by omega) (by omega), by show q.2.2.1 a = _; rw [f3]⟩, by show q.2.2.2 = _; rw [f3]⟩
    exact k2
  · rw [ic_pos (by rw [Int32.le_iff_toInt_le]; rw [Int32.lt_iff_toInt_lt] at hx; omega), if_neg hx]
    have hnew : ∀ i, i < 22 → q.2.1 185 (22 * S.2.2.2.1.1 + i) = S.1.2.1.1 i := fun i hi => by
      rw [r185, g1 i hi, rdR (by omega)]
      exact h1.2.2.1 i hi
    refine ok_bind (ok_call (r_adds (n := S.1.1) h15 e28 old hnew) (fun q2 p => ok_some ?_))
    obtain ⟨p1, p2, p3⟩ := p
    refine ok_some ⟨p1, rrel_make hr0 ⟨rfl, rfl, rfl, rfl, rfl⟩ hw (fun a b1 b2 b3 _ => by rw [p3.1 a b1 (by omega)]; exact f1 a b1 b2 b3) (fun i j1 j2 hi => by rw [p3.2.1 i (by omega)]; exact f2 i (fun q => hi (by unfold SS; omega))) (by rw [p3.2.1 1 (by omega)]; exact f2 1 (by omega)) (by rw [p3.2.2, f3]) (fun i hi => by rw [p3.1 171 (by omega) (by omega)]; exact k2 i hi) p2, fun a ha => ⟨by rw [p3.1 a (by omega) (by omega)]; exact f1 a (by omega) (by omega) (by omega), by show q2.2.2.1 a = _; rw [p3.2.2, f3]⟩, by show q2.2.2.2 = _; rw [p3.2.2, f3]⟩
theorem st_act {S : SP} {M : Mem} {fC fR aC aR : Mem → Option (Int32 × Mem)} {x : Int32} {v : VV} (hS : spOK S) (hc : CRel S M) (hr : RRel S M) (hw : WfV S.1.1 v)
    (eC : ∀ M, fC M = (fX4_copyFrom 11 6 M).bind fun q1 => (aC q1).bind fun q3 => (fX9_noted q3.1 q3.2).bind fun q5 => some (q5.1, q5.2))
    (eR : ∀ M, fR M = (fX10_putsBy (sI M 169 0 0)).bind fun q3 => (aR q3).bind fun q5 => (fX10_counted q5.1 q5.2).bind fun q7 => some (q7.1, q7.2))
    (hC : ∀ M1, RvC 6 S.1.1 S.1.2.1 M1 → Ok (aC M1) (fun q => q.1 = x ∧ RvC 6 S.1.1 v q.2 ∧ Fr (fun a => 6 ≤ a ∧ a ≤ 10) M1 q.2))
    (hR : ∀ M1, M1.1 169 3 = nI S.1.1 → (∀ i, i < 22 → M1.1 171 i = S.1.2.1.1 i) → Ok (aR M1) (fun q => q.1 = x ∧ (∀ i, i < 22 → q.2.1 171 i = v.1 i) ∧ FrR (fun a => a = 171) (fun _ => False) M1 q.2)) : StI fC fR M := by
  refine st_gen (S := S) (S' := if x < 0 then setV S v else actS S v) (x := x) ?_ hr (by rw [eC]; exact c_act hS hc hw hC) (fun M1 h1 => by rw [eR]; exact r_act hS h1 hw hR)
  split
  · exact ⟨hw, hS.2⟩
  · exact ok_actS hS hw
theorem r_becomes {M : Mem} {w : Nat → Int32} {i : Nat} {x : Int32} (hi : i < 22) (hv : ∀ i, i < 22 → M.1 171 i = w i) : Ok (fX10_becomes (nI i) x 1 M) (fun q => q.1 = bcm w i x ∧ (∀ j, j < 22 → q.2.1 171 j = up1 w i x j) ∧ FrR (fun a => a = 171) (fun _ => False) M q.2) := by
  have row : ∀ j, j < 22 → (sI M 171 i x).1 171 j = up1 w i x j := by
    intro j hj
    by_cases e : j = i
    · rw [rdE rfl e, up1_e e]
    · rw [rdS e, up1_n e]; exact hv j hj
  rw [e_X10_becomes]
  simp (disch := omega) only [↓reduceIte, ic_t, ic_f, not_true_eq_false, not_false_eq_true, ↓lt_v, rdR, rdE, rdS, leT, leTc, leTd, leF, leFc, leFd, ltT, ltTc, ltTd, ltF, ltFc, ltFd, eqT, eqTc, eqTd, eqF, eqFc, eqFd, m1T, m1F, m1T', m1F', inb_nI, ix_nI, inb_c, ix_c, nI_1, nI_pred, nI_m1, add_nIc, add_cnI, bd_v, reduceCtorEq, eqFcc, m1e0, m1e1, m1l0, m1g0, m2l0, m2g0, Int32.reduceLT, Int32.reduceLE, Int32.reduceAdd, Int32.reduceSub, Int32.reduceMul, eq_self, Bool.false_eq_true, hv]
  unfold bcm
  by_cases e : w i = x
  · rw [ic_pos e, if_pos e]
    exact ok_some ⟨rfl, row, frR_sI (by omega) (by omega)⟩
  · rw [ic_neg e, if_neg e]
    exact ok_some ⟨rfl, row, frR_sI (by omega) (by omega)⟩
theorem st_gap {M : Mem} {x : Int32} (h : Rel M) : StI (fun M => fX9_gap x M) (fun M => fX10_gap x M) M := by
  obtain ⟨S, hS, hc, hr⟩ := h
  have hn : S.1.1 ≤ 6 := hS.1.1
  rcases range_cases x 1 30 (by omega) (by omega) with ⟨g, g1, g2, rfl⟩ | ⟨hx, hx2⟩
  · have hi : ∀ M : Mem, fX10_in (nI g).toInt64 1 30 M = some (1, M) := fun M => by rw [r_inI (lo := 1) (hi := 30) (by decide) (by decide), nI_toInt (by omega), if_pos (by omega)]
    refine st_act (v := (up1 S.1.2.1.1 18 (nI g), S.1.2.1.2)) (aC := fun M => fX4_setGap 6 (nI g) M) (aR := fun M => fX10_becomes 18 (nI g) 1 M) hS hc hr (wfV_gap hS.1 g1 g2) (fun M => e_X9_gap _ M) (fun M => by show fX10_gap _ M = _; rw [e_X10_gap, lt_v]; simp only [hi, bd_v]) (fun M1 h1 => ?_) (fun M1 h1 h2 => r_becomes (i := 18) (by omega) h2)
    exact ok_mono (c_setGap hn h1 (by rw [show (1 : Int32) = nI 1 from rfl]; exact nI_nlt (by omega) (by omega)) (by rw [show (30 : Int32) = nI 30 from rfl]; exact nI_le (by omega) (by omega))) (fun q k => ⟨k.1, k.2.1, fr_sub k.2.2 (fun a ha => by omega)⟩)
  · have hi : ∀ M : Mem, fX10_in x.toInt64 1 30 M = some (0, M) := fun M => in_no (lo := 1) (hi := 30) (by decide) (by decide) hx
    refine st_act (v := S.1.2.1) (x := -1) (aC := fun M => fX4_setGap 6 x M) (aR := fun M => some (-1, M)) hS hc hr hS.1 (fun M => e_X9_gap _ M) (fun M => ?_) (fun M1 h1 => ?_) (fun M1 h1 h2 => ok_some ⟨rfl, h2, frR_rfl⟩)
    · show fX10_gap _ M = _
      rw [e_X10_gap, lt_v]
      simp only [hi, bd_v, e_X10_becomes]
      simp only [ic_t, bd_v]
    · show Ok (fX4_setGap 6 x M1) _
      rw [e_X4_setGap]
      by_cases y0 : x < 1
      · simp (disch := omega) only [↓reduceIte, ic_t, ic_f, not_true_eq_false, not_false_eq_true, ↓lt_v, rdR, rdE, rdS, leT, leTc, leTd, leF, leFc, leFd, ltT, ltTc, ltTd, ltF, ltFc, ltFd, eqT, eqTc, eqTd, eqF, eqFc, eqFd, m1T, m1F, m1T', m1F', inb_nI, ix_nI, inb_c, ix_c, nI_1, nI_pred, nI_m1, add_nIc, add_cnI, bd_v, reduceCtorEq, eqFcc, m1e0, m1e1, m1l0, m1g0, m2l0, m2g0, Int32.reduceLT, Int32.reduceLE, Int32.reduceAdd, Int32.reduceSub, Int32.reduceMul, eq_self, Bool.false_eq_true, eq_true y0]
        exact ok_some ⟨rfl, h1, fr_rfl⟩
      · rcases hx2 with q | q
        · exact absurd q y0
        · simp (disch := omega) only [↓reduceIte, ic_t, ic_f, not_true_eq_false, not_false_eq_true, ↓lt_v, rdR, rdE, rdS, leT, leTc, leTd, leF, leFc, leFd, ltT, ltTc, ltTd, ltF, ltFc, ltFd, eqT, eqTc, eqTd, eqF, eqFc, eqFd, m1T, m1F, m1T', m1F', inb_nI, ix_nI, inb_c, ix_c, nI_1, nI_pred, nI_m1, add_nIc, add_cnI, bd_v, reduceCtorEq, eqFcc, m1e0, m1e1, m1l0, m1g0, m2l0, m2g0, Int32.reduceLT, Int32.reduceLE, Int32.reduceAdd, Int32.reduceSub, Int32.reduceMul, eq_self, Bool.false_eq_true, eq_false y0, gt_nle (show (30 : Int32) < x from q)]
          exact ok_some ⟨rfl, h1, fr_rfl⟩
theorem wfV_str {n g : Nat} {v : VV} (h : WfV n v) (h1 : 1 ≤ g) (h2 : g ≤ 40) : WfV n (up1 v.1 19 (nI g), v.2) := by
  have e : ∀ j, j ≠ 19 → up1 v.1 19 (nI g) j = v.1 j := fun j hj => up1_n hj
  have hn : n ≤ 6 := h.1
  refine ⟨h.1, fun k hk => ⟨(h.2.1 k hk).1, ?_⟩, h.2.2.1, ?_, ⟨g, show up1 v.1 19 (nI g) 19 = nI g from up1_e rfl, h1, h2⟩⟩
  · have := (h.2.1 k hk).1
    rw [show ((up1 v.1 19 (nI g), v.2) : VV).1 (12 + ((up1 v.1 19 (nI g), v.2) : VV).2 k) = v.1 (12 + v.2 k) from e (12 + v.2 k) (by omega)]
    exact (h.2.1 k hk).2
  · rw [show ((up1 v.1 19 (nI g), v.2) : VV).1 18 = v.1 18 from e 18 (by omega)]; exact h.2.2.2.1
theorem st_strokes {M : Mem} {x : Int32} (h : Rel M) : StI (fun M => fX9_strokes x M) (fun M => fX10_strokes x M) M := by
  obtain ⟨S, hS, hc, hr⟩ := h
  have hn : S.1.1 ≤ 6 := hS.1.1
  rcases range_cases x 1 40 (by omega) (by omega) with ⟨g, g1, g2, rfl⟩ | ⟨hx, hx2⟩
  · have hi : ∀ M : Mem, fX10_in (nI g).toInt64 1 40 M = some (1, M) := fun M => by rw [r_inI (lo := 1) (hi := 40) (by decide) (by decide), nI_toInt (by omega), if_pos (by omega)]
    refine st_act (v := (up1 S.1.2.1.1 19 (nI g), S.1.2.1.2)) (aC := fun M => fX4_setStrokes 6 (nI g) M) (aR := fun M => fX10_becomes 19 (nI g) 1 M) hS hc hr (wfV_str hS.1 g1 g2) (fun M => e_X9_strokes _ M) (fun M => by show fX10_strokes _ M = _; rw [e_X10_strokes, lt_v]; simp only [hi, bd_v]) (fun M1 h1 => ?_) (fun M1 h1 h2 => r_becomes (i := 19) (by omega) h2)
    exact ok_mono (c_setStr hn h1 (by rw [show (1 : Int32) = nI 1 from rfl]; exact nI_nlt (by omega) (by omega)) (by rw [show (40 : Int32) = nI 40 from rfl]; exact nI_le (by omega) (by omega))) (fun q k => ⟨k.1, k.2.1, fr_sub k.2.2 (fun a ha => by omega)⟩)
  · have hi : ∀ M : Mem, fX10_in x.toInt64 1 40 M = some (0, M) := fun M => in_no (lo := 1) (hi := 40) (by decide) (by decide) hx
    refine st_act (v := S.1.2.1) (x := -1) (aC := fun M => fX4_setStrokes 6 x M) (aR := fun M => some (-1, M)) hS hc hr hS.1 (fun M => e_X9_strokes _ M) (fun M => ?_) (fun M1 h1 => ?_) (fun M1 h1 h2 => ok_some ⟨rfl, h2, frR_rfl⟩)
    · show fX10_strokes _ M = _
      rw [e_X10_strokes, lt_v]
      simp only [hi, bd_v, e_X10_becomes]
      simp only [ic_t, bd_v]
    · show Ok (fX4_setStrokes 6 x M1) _
      rw [e_X4_setStrokes]
      by_cases y0 : x < 1
      · simp (disch := omega) only [↓reduceIte, ic_t, ic_f, not_true_eq_false, not_false_eq_true, ↓lt_v, rdR, rdE, rdS, leT, leTc, leTd, leF, leFc, leFd, ltT, ltTc, ltTd, ltF, ltFc, ltFd, eqT, eqTc, eqTd, eqF, eqFc, eqFd, m1T, m1F, m1T', m1F', inb_nI, ix_nI, inb_c, ix_c, nI_1, nI_pred, nI_m1, add_nIc, add_cnI, bd_v, reduceCtorEq, eqFcc, m1e0, m1e1, m1l0, m1g0, m2l0, m2g0, Int32.reduceLT, Int32.reduceLE, Int32.reduceAdd, Int32.reduceSub, Int32.reduceMul, eq_self, Bool.false_eq_true, eq_true y0]
        exact ok_some ⟨rfl, h1, fr_rfl⟩
      · rcases hx2 with q | q
        · exact absurd q y0
        · simp (disch := omega) only [↓reduceIte, ic_t, ic_f, not_true_eq_false, not_false_eq_true, ↓lt_v, rdR, rdE, rdS, leT, leTc, leTd, leF, leFc, leFd, ltT, ltTc, ltTd, ltF, ltFc, ltFd, eqT, eqTc, eqTd, eqF, eqFc, eqFd, m1T, m1F, m1T', m1F', inb_nI, ix_nI, inb_c, ix_c, nI_1, nI_pred, nI_m1, add_nIc, add_cnI, bd_v, reduceCtorEq, eqFcc, m1e0, m1e1, m1l0, m1g0, m2l0, m2g0, Int32.reduceLT, Int32.reduceLE, Int32.reduceAdd, Int32.reduceSub, Int32.reduceMul, eq_self, Bool.false_eq_true, eq_false y0, gt_nle (show (40 : Int32) < x from q)]
          exact ok_some ⟨rfl, h1, fr_rfl⟩
theorem st_scratches {M : Mem} {x : Int32} (h : Rel M) : StI (fun M => fX9_scratches x M) (fun M => fX10_scratches x M) M := by
  obtain ⟨S, hS, hc, hr⟩ := h
  have hn : S.1.1 ≤ 6 := hS.1.1
  rcases in_cases x (n := S.1.1) (by omega) with ⟨b, hb, rfl⟩ | hx
  · obtain ⟨a, ha, rfl⟩ := hS.1.2.2.1 b hb
    refine st_act (v := scV S.1.1 a S.1.2.1) (aC := fun M => fX4_moveToFoot 6 (nI (S.1.2.1.2 a)) M) (aR := fun M => fX10_scratchesOne 171 (nI (S.1.2.1.2 a)) M) hS hc hr (wf_sc hS.1 ha) (fun M => e_X9_scratches _ M) (fun M => by show fX10_scratches _ M = _; rw [e_X10_scratches, lt_v]) (fun M1 h1 => ?_) (fun M1 h1 h2 => r_foot hS.1 ln171 (by omega) h1 h2 ha)
    exact ok_mono (c_foot hS.1 h1 ha) (fun q k => ⟨k.1, k.2.1, fr_sub k.2.2 (fun a ha => by omega)⟩)
  · refine st_act (v := S.1.2.1) (x := -1) (aC := fun M => fX4_moveToFoot 6 x M) (aR := fun M => fX10_scratchesOne 171 x M) hS hc hr hS.1 (fun M => e_X9_scratches _ M) (fun M => by show fX10_scratches _ M = _; rw [e_X10_scratches, lt_v]) (fun M1 h1 => ?_) (fun M1 h1 h2 => ?_)
    · have hh := has_out h1.1 hx
      show Ok (fX4_moveToFoot 6 x M1) _
      rw [e_X4_moveToFoot]
      simp (disch := omega) only [↓reduceIte, ic_t, ic_f, not_true_eq_false, not_false_eq_true, ↓lt_v, rdR, rdE, rdS, leT, leTc, leTd, leF, leFc, leFd, ltT, ltTc, ltTd, ltF, ltFc, ltFd, eqT, eqTc, eqTd, eqF, eqFc, eqFd, m1T, m1F, m1T', m1F', inb_nI, ix_nI, inb_c, ix_c, nI_1, nI_pred, nI_m1, add_nIc, add_cnI, bd_v, reduceCtorEq, eqFcc, m1e0, m1e1, m1l0, m1g0, m2l0, m2g0, Int32.reduceLT, Int32.reduceLE, Int32.reduceAdd, Int32.reduceSub, Int32.reduceMul, eq_self, Bool.false_eq_true, hh]
      exact ok_some ⟨rfl, h1, fr_rfl⟩
    · have hh := r_isBoat_out h1 hn hx
      show Ok (fX10_scratchesOne 171 x M1) _
      rw [e_X10_scratchesOne]
      simp (disch := omega) only [↓reduceIte, ic_t, ic_f, not_true_eq_false, not_false_eq_true, ↓lt_v, rdR, rdE, rdS, leT, leTc, leTd, leF, leFc, leFd, ltT, ltTc, ltTd, ltF, ltFc, ltFd, eqT, eqTc, eqTd, eqF, eqFc, eqFd, m1T, m1F, m1T', m1F', inb_nI, ix_nI, inb_c, ix_c, nI_1, nI_pred, nI_m1, add_nIc, add_cnI, bd_v, reduceCtorEq, eqFcc, m1e0, m1e1, m1l0, m1g0, m2l0, m2g0, Int32.reduceLT, Int32.reduceLE, Int32.reduceAdd, Int32.reduceSub, Int32.reduceMul, eq_self, Bool.false_eq_true, hh]
      exact ok_some ⟨rfl, h2, frR_rfl⟩
theorem st_rests {M : Mem} {x : Int32} (h : Rel M) : StI (fun M => fX9_rests x M) (fun M => fX10_rests x M) M := by
  obtain ⟨S, hS, hc, hr⟩ := h
  have hn : S.1.1 ≤ 6 := hS.1.1
  rcases in_cases x (n := S.1.1) (by omega) with ⟨b, hb, rfl⟩ | hx
  · refine st_act (x := bcm S.1.2.1.1 (6 + b) 0) (v := (up1 S.1.2.1.1 (6 + b) 0, S.1.2.1.2)) (aC := fun M => fX4_restBoat 6 (nI b) M) (aR := fun M => fX10_restsOne (nI b) M) hS hc hr (wfV_lo hS.1 (by omega)) (fun M => e_X9_rests _ M) (fun M => by show fX10_rests _ M = _; rw [e_X10_rests, lt_v]) (fun M1 h1 => ?_) (fun M1 h1 h2 => ?_)
    · exact ok_mono (c_rest hn h1 hb) (fun q k => ⟨k.1, k.2.1, fr_sub k.2.2 (fun a ha => by omega)⟩)
    · have hh := r_isBoat_in h1 hn hb
      show Ok (fX10_restsOne (nI b) M1) _
      rw [e_X10_restsOne]
      simp (disch := omega) only [↓reduceIte, ic_t, ic_f, not_true_eq_false, not_false_eq_true, ↓lt_v, rdR, rdE, rdS, leT, leTc, leTd, leF, leFc, leFd, ltT, ltTc, ltTd, ltF, ltFc, ltFd, eqT, eqTc, eqTd, eqF, eqFc, eqFd, m1T, m1F, m1T', m1F', inb_nI, ix_nI, inb_c, ix_c, nI_1, nI_pred, nI_m1, add_nIc, add_cnI, bd_v, reduceCtorEq, eqFcc, m1e0, m1e1, m1l0, m1g0, m2l0, m2g0, Int32.reduceLT, Int32.reduceLE, Int32.reduceAdd, Int32.reduceSub, Int32.reduceMul, eq_self, Bool.false_eq_true, hh]
      exact ok_call (r_becomes (i := 6 + b) (by omega) h2) (fun q k => ok_some k)
  · refine st_act (v := S.1.2.1) (x := -1) (aC := fun M => fX4_restBoat 6 x M) (aR := fun M => fX10_restsOne x M) hS hc hr hS.1 (fun M => e_X9_rests _ M) (fun M => by show fX10_rests _ M = _; rw [e_X10_rests, lt_v]) (fun M1 h1 => ?_) (fun M1 h1 h2 => ?_)
    · have hh := has_out h1.1 hx
      show Ok (fX4_restBoat 6 x M1) _
      rw [e_X4_restBoat]
      simp (disch := omega) only [↓reduceIte, ic_t, ic_f, not_true_eq_false, not_false_eq_true, ↓lt_v, rdR, rdE, rdS, leT, leTc, leTd, leF, leFc, leFd, ltT, ltTc, ltTd, ltF, ltFc, ltFd, eqT, eqTc, eqTd, eqF, eqFc, eqFd, m1T, m1F, m1T', m1F', inb_nI, ix_nI, inb_c, ix_c, nI_1, nI_pred, nI_m1, add_nIc, add_cnI, bd_v, reduceCtorEq, eqFcc, m1e0, m1e1, m1l0, m1g0, m2l0, m2g0, Int32.reduceLT, Int32.reduceLE, Int32.reduceAdd, Int32.reduceSub, Int32.reduceMul, eq_self, Bool.false_eq_true, hh]
      exact ok_some ⟨rfl, h1, fr_rfl⟩
    · have hh := r_isBoat_out h1 hn hx
      show Ok (fX10_restsOne x M1) _
      rw [e_X10_restsOne]
      simp (disch := omega) only [↓reduceIte, ic_t, ic_f, not_true_eq_false, not_false_eq_true, ↓lt_v, rdR, rdE, rdS, leT, leTc, leTd, leF, leFc, leFd, ltT, ltTc, ltTd, ltF, ltFc, ltFd, eqT, eqTc, eqTd, eqF, eqFc, eqFd, m1T, m1F, m1T', m1F', inb_nI, ix_nI, inb_c, ix_c, nI_1, nI_pred, nI_m1, add_nIc, add_cnI, bd_v, reduceCtorEq, eqFcc, m1e0, m1e1, m1l0, m1g0, m2l0, m2g0, Int32.reduceLT, Int32.reduceLE, Int32.reduceAdd, Int32.reduceSub, Int32.reduceMul, eq_self, Bool.false_eq_true, hh]
      exact ok_some ⟨rfl, h2, frR_rfl⟩
theorem st_paces {M : Mem} {x y : Int32} (h : Rel M) : StI (fun M => fX9_paces x y M) (fun M => fX10_paces x y M) M := by
  obtain ⟨S, hS, hc, hr⟩ := h
  have hn : S.1.1 ≤ 6 := hS.1.1
  rcases in_cases x (n := S.1.1) (by omega) with ⟨b, hb, rfl⟩ | hx
  · rcases range_cases y 1 9 (by omega) (by omega) with ⟨g, g1, g2, rfl⟩ | ⟨hy, hy2⟩
    · have hi : ∀ M : Mem, fX10_in (nI g).toInt64 1 9 M = some (1, M) := fun M => by rw [r_inI (lo := 1) (hi := 9) (by decide) (by decide), nI_toInt (by omega), if_pos (by omega)]
      refine st_act (x := bcm S.1.2.1.1 b (nI g)) (v := (up1 S.1.2.1.1 b (nI g), S.1.2.1.2)) (aC := fun M => fX4_setPace 6 (nI b) (nI g) M) (aR := fun M => fX10_pacesOne (nI b) (nI g) M) hS hc hr (wfV_lo hS.1 (by omega)) (fun M => e_X9_paces _ _ M) (fun M => by show fX10_paces _ _ M = _; rw [e_X10_paces, lt_v]) (fun M1 h1 => ?_) (fun M1 h1 h2 => ?_)
      · exact ok_mono (c_pace hn h1 hb (by rw [show (1 : Int32) = nI 1 from rfl]; exact nI_nlt (by omega) (by omega)) (by rw [show (9 : Int32) = nI 9 from rfl]; exact nI_le (by omega) (by omega))) (fun q k => ⟨k.1, k.2.1, fr_sub k.2.2 (fun a ha => by omega)⟩)
      · have hh := r_isBoat_in h1 hn hb
        show Ok (fX10_pacesOne (nI b) (nI g) M1) _
        rw [e_X10_pacesOne]
        simp (disch := omega) only [↓reduceIte, ic_t, ic_f, not_true_eq_false, not_false_eq_true, ↓lt_v, rdR, rdE, rdS, leT, leTc, leTd, leF, leFc, leFd, ltT, ltTc, ltTd, ltF, ltFc, ltFd, eqT, eqTc, eqTd, eqF, eqFc, eqFd, m1T, m1F, m1T', m1F', inb_nI, ix_nI, inb_c, ix_c, nI_1, nI_pred, nI_m1, add_nIc, add_cnI, bd_v, reduceCtorEq, eqFcc, m1e0, m1e1, m1l0, m1g0, m2l0, m2g0, Int32.reduceLT, Int32.reduceLE, Int32.reduceAdd, Int32.reduceSub, Int32.reduceMul, eq_self, Bool.false_eq_true, hh, hi]
        exact ok_call (r_becomes (i := b) (by omega) h2) (fun q k => ok_some k)
    · have hi : ∀ M : Mem, fX10_in y.toInt64 1 9 M = some (0, M) := fun M => in_no (lo := 1) (hi := 9) (by decide) (by decide) hy
      refine st_act (v := S.1.2.1) (x := -1) (aC := fun M => fX4_setPace 6 (nI b) y M) (aR := fun M => fX10_pacesOne (nI b) y M) hS hc hr hS.1 (fun M => e_X9_paces _ _ M) (fun M => by show fX10_paces _ _ M = _; rw [e_X10_paces, lt_v]) (fun M1 h1 => ?_) (fun M1 h1 h2 => ?_)
      · have hh := has_in h1.1 hn hb
        show Ok (fX4_setPace 6 (nI b) y M1) _
        rw [e_X4_setPace]
        by_cases y0 : y < 1
        · simp (disch := omega) only [↓reduceIte, ic_t, ic_f, not_true_eq_false, not_false_eq_true, ↓lt_v, rdR, rdE, rdS, leT, leTc, leTd, leF, leFc, leFd, ltT, ltTc, ltTd, ltF, ltFc, ltFd, eqT, eqTc, eqTd, eqF, eqFc, eqFd, m1T, m1F, m1T', m1F', inb_nI, ix_nI, inb_c, ix_c, nI_1, nI_pred, nI_m1, add_nIc, add_cnI, bd_v, reduceCtorEq, eqFcc, m1e0, m1e1, m1l0, m1g0, m2l0, m2g0, Int32.reduceLT, Int32.reduceLE, Int32.reduceAdd, Int32.reduceSub, Int32.reduceMul, eq_self, Bool.false_eq_true, hh, eq_true y0]
          exact ok_some ⟨rfl, h1, fr_rfl⟩
        · rcases hy2 with q | q
          · exact absurd q y0
          · simp (disch := omega) only [↓reduceIte, ic_t, ic_f, not_true_eq_false, not_false_eq_true, ↓lt_v, rdR, rdE, rdS, leT, leTc, leTd, leF, leFc, leFd, ltT, ltTc, ltTd, ltF, ltFc, ltFd, eqT, eqTc, eqTd, eqF, eqFc, eqFd, m1T, m1F, m1T', m1F', inb_nI, ix_nI, inb_c, ix_c, nI_1, nI_pred, nI_m1, add_nIc, add_cnI, bd_v, reduceCtorEq, eqFcc, m1e0, m1e1, m1l0, m1g0, m2l0, m2g0, Int32.reduceLT, Int32.reduceLE, Int32.reduceAdd, Int32.reduceSub, Int32.reduceMul, eq_self, Bool.false_eq_true, hh, eq_false y0, gt_nle (show (9 : Int32) < y from q)]
            exact ok_some ⟨rfl, h1, fr_rfl⟩
      · have hh := r_isBoat_in h1 hn hb
        show Ok (fX10_pacesOne (nI b) y M1) _
        rw [e_X10_pacesOne]
        simp (disch := omega) only [↓reduceIte, ic_t, ic_f, not_true_eq_false, not_false_eq_true, ↓lt_v, rdR, rdE, rdS, leT, leTc, leTd, leF, leFc, leFd, ltT, ltTc, ltTd, ltF, ltFc, ltFd, eqT, eqTc, eqTd, eqF, eqFc, eqFd, m1T, m1F, m1T', m1F', inb_nI, ix_nI, inb_c, ix_c, nI_1, nI_pred, nI_m1, add_nIc, add_cnI, bd_v, reduceCtorEq, eqFcc, m1e0, m1e1, m1l0, m1g0, m2l0, m2g0, Int32.reduceLT, Int32.reduceLE, Int32.reduceAdd, Int32.reduceSub, Int32.reduceMul, eq_self, Bool.false_eq_true, hh, hi, e_X10_becomes]
        exact ok_some ⟨rfl, h2, frR_rfl⟩
  · refine st_act (v := S.1.2.1) (x := -1) (aC := fun M => fX4_setPace 6 x y M) (aR := fun M => fX10_pacesOne x y M) hS hc hr hS.1 (fun M => e_X9_paces _ _ M) (fun M => by show fX10_paces _ _ M = _; rw [e_X10_paces, lt_v]) (fun M1 h1 => ?_) (fun M1 h1 h2 => ?_)
    · have hh := has_out h1.1 hx
      show Ok (fX4_setPace 6 x y M1) _
      rw [e_X4_setPace]
      simp (disch := omega) only [↓reduceIte, ic_t, ic_f, not_true_eq_false, not_false_eq_true, ↓lt_v, rdR, rdE, rdS, leT, leTc, leTd, leF, leFc, leFd, ltT, ltTc, ltTd, ltF, ltFc, ltFd, eqT, eqTc, eqTd, eqF, eqFc, eqFd, m1T, m1F, m1T', m1F', inb_nI, ix_nI, inb_c, ix_c, nI_1, nI_pred, nI_m1, add_nIc, add_cnI, bd_v, reduceCtorEq, eqFcc, m1e0, m1e1, m1l0, m1g0, m2l0, m2g0, Int32.reduceLT, Int32.reduceLE, Int32.reduceAdd, Int32.reduceSub, Int32.reduceMul, eq_self, Bool.false_eq_true, hh]
      exact ok_some ⟨rfl, h1, fr_rfl⟩
    · have hh := r_isBoat_out h1 hn hx
      show Ok (fX10_pacesOne x y M1) _
      rw [e_X10_pacesOne]
      simp (disch := omega) only [↓reduceIte, ic_t, ic_f, not_true_eq_false, not_false_eq_true, ↓lt_v, rdR, rdE, rdS, leT, leTc, leTd, leF, leFc, leFd, ltT, ltTc, ltTd, ltF, ltFc, ltFd, eqT, eqTc, eqTd, eqF, eqFc, eqFd, m1T, m1F, m1T', m1F', inb_nI, ix_nI, inb_c, ix_c, nI_1, nI_pred, nI_m1, add_nIc, add_cnI, bd_v, reduceCtorEq, eqFcc, m1e0, m1e1, m1l0, m1g0, m2l0, m2g0, Int32.reduceLT, Int32.reduceLE, Int32.reduceAdd, Int32.reduceSub, Int32.reduceMul, eq_self, Bool.false_eq_true, hh]
      exact ok_some ⟨rfl, h2, frR_rfl⟩
