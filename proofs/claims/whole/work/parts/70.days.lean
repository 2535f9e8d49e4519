/-! PURE: days, undo, keep, again, heard, count -/
def kd (S : SP) (v : VV) (l : List Int64) : SP := rowS (actS S v) (some l)
theorem st_days {M : Mem} {x : Int32} (h : Rel M) : StI (fun M => fX9_days x M) (fun M => fX10_days x M) M := by
  obtain ⟨S, hS, hc, hr⟩ := h
  have hn : S.1.1 ≤ 6 := hS.1.1
  have hR := hc.1.2.2.2.2
  rcases range_cases x 0 60 (by omega) (by omega) with ⟨d, _, hd, rfl⟩ | ⟨hx, hx2⟩
  · have hwd := wf_days (F := S.1.2.2) hS.1 d
    refine st_gen (S := S) (S' := rowS (actS S (days S.1.2.2 S.1.1 d S.1.2.1)) (some [(nI (dts S.1.2.2 S.1.1 S.1.2.1 d)).toInt64])) (x := if S.1.1 = 0 then -1 else nI ((days S.1.2.2 S.1.1 d S.1.2.1).2 0)) (ok_rowS (ok_actS hS hwd) (fun l' e => by cases e; simp)) hr ?_ (fun M1 h1 => ?_)
    · show Ok (fX9_days (nI d) M) _
      rw [e_X9_days]
      simp (disch := omega) only [↓reduceIte, ic_t, ic_f, not_true_eq_false, not_false_eq_true, ↓lt_v, rdR, rdE, rdS, leT, leTc, leTd, leF, leFc, leFd, ltT, ltTc, ltTd, ltF, ltFc, ltFd, eqT, eqTc, eqTd, eqF, eqFc, eqFd, m1T, m1F, m1T', m1F', inb_nI, ix_nI, inb_c, ix_c, nI_1, nI_pred, nI_m1, add_nIc, add_cnI, bd_v, reduceCtorEq, eqFcc, m1e0, m1e1, m1l0, m1g0, m2l0, m2g0, Int32.reduceLT, Int32.reduceLE, Int32.reduceAdd, Int32.reduceSub, Int32.reduceMul, eq_self, Bool.false_eq_true]
      refine ok_call (c_push hn hc.2.2.2.2.1 hc.1.2.1 (Or.inl rfl)) (fun M1 p => ?_)
      obtain ⟨p1, p2⟩ := p
      have e17 : M1.2.2 1 17 = M.2.2 1 17 := p2.2.2 1 17 (by omega)
      have hv1 : RvC 6 S.1.1 S.1.2.1 M1 := rivC_fr hc.1.2.1 (fun a _ _ => p2.1 a (by omega))
      have hu1 : RuC (M.2.2 1 17) S.1.2.2 M1 := ruC_fr hc.1.2.2.1 (p2.1 _ (by omega)) (p2.1 _ (by omega))
      rw [e17]
      refine ok_call (c_pass hS.1 (by omega) hR hv1 hu1 (by omega)) (fun q k => ?_)
      obtain ⟨k1, k2, k3, k4, k5⟩ := k
      have hcr : CRel (actS S (days S.1.2.2 S.1.1 d S.1.2.1)) q.2 := crel_make hc ⟨rfl, rfl, rfl, rfl, rfl⟩ hwd (fun a ha ha2 => by rw [k5.1 a (by unfold PDy; unfold SC at ha2; omega), p2.1 a (by omega)]) (by rw [k5.2, p2.2.1]) (fun a i ha => by rw [k5.2, p2.2.2 a i ha]) k2 (psC_fr p1 (fun a _ _ => k5.1 a (by unfold PDy; omega)) (by rw [k5.2]))
      rw [k1]
      refine ok_call (c_tell (kc_rfl (M := q.2))) (fun M3 t => ?_)
      have hcr3 := crel_q hcr t.1 t.2.1
      have cf : CFr M M3 := fun a ha => ⟨by rw [t.2.2.1 a (by omega), k5.1 a (by unfold PDy; omega), p2.1 a (by omega)], by rw [t.1.2.1 a (by omega), k5.2, p2.2.1]⟩
      by_cases h0 : S.1.1 = 0
      · have hb := c_boatOff (x := 0) hcr3.1.2.1 (Or.inr (by show nI S.1.1 ≤ 0; rw [h0]; decide))
        simp (disch := omega) only [↓reduceIte, ic_t, ic_f, not_true_eq_false, not_false_eq_true, ↓lt_v, rdR, rdE, rdS, leT, leTc, leTd, leF, leFc, leFd, ltT, ltTc, ltTd, ltF, ltFc, ltFd, eqT, eqTc, eqTd, eqF, eqFc, eqFd, m1T, m1F, m1T', m1F', inb_nI, ix_nI, inb_c, ix_c, nI_1, nI_pred, nI_m1, add_nIc, add_cnI, bd_v, reduceCtorEq, eqFcc, m1e0, m1e1, m1l0, m1g0, m2l0, m2g0, Int32.reduceLT, Int32.reduceLE, Int32.reduceAdd, Int32.reduceSub, Int32.reduceMul, eq_self, Bool.false_eq_true, hb]
        rw [if_pos h0]
        exact ok_some ⟨rfl, hcr3, cf⟩
      · have hb := c_boatOn (k := 0) hn hcr3.1.2.1 (show 0 < S.1.1 by omega)
        rw [show (0 : Int32) = nI 0 from rfl, hb]
        simp (disch := omega) only [↓reduceIte, ic_t, ic_f, not_true_eq_false, not_false_eq_true, ↓lt_v, rdR, rdE, rdS, leT, leTc, leTd, leF, leFc, leFd, ltT, ltTc, ltTd, ltF, ltFc, ltFd, eqT, eqTc, eqTd, eqF, eqFc, eqFd, m1T, m1F, m1T', m1F', inb_nI, ix_nI, inb_c, ix_c, nI_1, nI_pred, nI_m1, add_nIc, add_cnI, bd_v, reduceCtorEq, eqFcc, m1e0, m1e1, m1l0, m1g0, m2l0, m2g0, Int32.reduceLT, Int32.reduceLE, Int32.reduceAdd, Int32.reduceSub, Int32.reduceMul, eq_self, Bool.false_eq_true]
        rw [if_neg h0]
        exact ok_some ⟨rfl, hcr3, cf⟩
    · show Ok (fX10_days (nI d) M1) _
      have hi : ∀ M : Mem, fX10_in (nI d).toInt64 0 60 M = some (1, M) := fun M => by rw [r_inI (lo := 0) (hi := 60) (by decide) (by decide), nI_toInt (by omega), if_pos (by omega)]
      have hr0 := h1
      have h15 := hS.2.2.1
      obtain ⟨h1, h2, h3, h4, h5, h6⟩ := h1
      rw [e_X10_days]
      simp (disch := omega) only [↓reduceIte, ic_t, ic_f, not_true_eq_false, not_false_eq_true, ↓lt_v, rdR, rdE, rdS, leT, leTc, leTd, leF, leFc, leFd, ltT, ltTc, ltTd, ltF, ltFc, ltFd, eqT, eqTc, eqTd, eqF, eqFc, eqFd, m1T, m1F, m1T', m1F', inb_nI, ix_nI, inb_c, ix_c, nI_1, nI_pred, nI_m1, add_nIc, add_cnI, bd_v, reduceCtorEq, eqFcc, m1e0, m1e1, m1l0, m1g0, m2l0, m2g0, Int32.reduceLT, Int32.reduceLE, Int32.reduceAdd, Int32.reduceSub, Int32.reduceMul, eq_self, Bool.false_eq_true, hi]
      refine ok_call (r_putsBy (P := S.2.2.2.1.1) h15 (by simp (disch := omega) only [↓reduceIte, ic_t, ic_f, not_true_eq_false, not_false_eq_true, ↓lt_v, rdR, rdE, rdS, leT, leTc, leTd, leF, leFc, leFd, ltT, ltTc, ltTd, ltF, ltFc, ltFd, eqT, eqTc, eqTd, eqF, eqFc, eqFd, m1T, m1F, m1T', m1F', inb_nI, ix_nI, inb_c, ix_c, nI_1, nI_pred, nI_m1, add_nIc, add_cnI, bd_v, reduceCtorEq, eqFcc, m1e0, m1e1, m1l0, m1g0, m2l0, m2g0, Int32.reduceLT, Int32.reduceLE, Int32.reduceAdd, Int32.reduceSub, Int32.reduceMul, eq_self, Bool.false_eq_true, h4.1])) (fun M2 g => ?_)
      obtain ⟨g1, g2, g3⟩ := g
      have e3 : M2.1 169 3 = nI S.1.1 := by rw [g3.2.1 3 (fun q => q)]; simp (disch := omega) only [↓reduceIte, ic_t, ic_f, not_true_eq_false, not_false_eq_true, ↓lt_v, rdR, rdE, rdS, leT, leTc, leTd, leF, leFc, leFd, ltT, ltTc, ltTd, ltF, ltFc, ltFd, eqT, eqTc, eqTd, eqF, eqFc, eqFd, m1T, m1F, m1T', m1F', inb_nI, ix_nI, inb_c, ix_c, nI_1, nI_pred, nI_m1, add_nIc, add_cnI, bd_v, reduceCtorEq, eqFcc, m1e0, m1e1, m1l0, m1g0, m2l0, m2g0, Int32.reduceLT, Int32.reduceLE, Int32.reduceAdd, Int32.reduceSub, Int32.reduceMul, eq_self, Bool.false_eq_true, h1.2.1]
      have e171 : ∀ i, i < 22 → M2.1 171 i = S.1.2.1.1 i := fun i hi => by rw [g3.1 171 (by omega) (by omega)]; simp (disch := omega) only [↓reduceIte, ic_t, ic_f, not_true_eq_false, not_false_eq_true, ↓lt_v, rdR, rdE, rdS, leT, leTc, leTd, leF, leFc, leFd, ltT, ltTc, ltTd, ltF, ltFc, ltFd, eqT, eqTc, eqTd, eqF, eqFc, eqFd, m1T, m1F, m1T', m1F', inb_nI, ix_nI, inb_c, ix_c, nI_1, nI_pred, nI_m1, add_nIc, add_cnI, bd_v, reduceCtorEq, eqFcc, m1e0, m1e1, m1l0, m1g0, m2l0, m2g0, Int32.reduceLT, Int32.reduceLE, Int32.reduceAdd, Int32.reduceSub, Int32.reduceMul, eq_self, Bool.false_eq_true]; exact h1.2.2.1 i hi
      have hu2 : RuR S.1.2.2 M2 := ruR_fr h1.2.2.2 (by rw [g3.1 175 (by omega) (by omega), row_n (by omega)]) (by rw [g3.2.1 16 (fun q => q), rdS (by omega)])
      refine ok_call (r_goesOn hS.1 ln171 (by omega) e3 e171 hu2 (by omega)) (fun M3 k => ?_)
      obtain ⟨k1, k2, k3, k4, k5⟩ := k
      simp (disch := omega) only [↓reduceIte, ic_t, ic_f, not_true_eq_false, not_false_eq_true, ↓lt_v, rdR, rdE, rdS, leT, leTc, leTd, leF, leFc, leFd, ltT, ltTc, ltTd, ltF, ltFc, ltFd, eqT, eqTc, eqTd, eqF, eqFc, eqFd, m1T, m1F, m1T', m1F', inb_nI, ix_nI, inb_c, ix_c, nI_1, nI_pred, nI_m1, add_nIc, add_cnI, bd_v, reduceCtorEq, eqFcc, m1e0, m1e1, m1l0, m1g0, m2l0, m2g0, Int32.reduceLT, Int32.reduceLE, Int32.reduceAdd, Int32.reduceSub, Int32.reduceMul, eq_self, Bool.false_eq_true, k2]
      obtain ⟨z1, z2⟩ := r_zero (kr_rfl (M := M3))
      refine ok_call (r_enters (l := []) (by simp) z1 z2) (fun M4 t => ?_)
      have f1 : ∀ a, a ≠ 169 → a ≠ 171 → a ≠ 185 → ¬ PRr a → M4.1 a = M1.1 a := fun a b1 b2 b3 b4 => by rw [t.2.2.1 a b1, row_n b1, k5.1 a b1 (by unfold PDr; unfold PRr at b4; omega), g3.1 a b1 b3, row_n b1]
      have f2 : ∀ i, i ≠ 0 → i ≠ 1 → ¬ SDr i → M4.1 169 i = M1.1 169 i := fun i b0 b1 b2 => by rw [t.2.2.2 i b1, rdS b1, k5.2.1 i b2, g3.2.1 i (fun q => q), rdS b0]
      have f185 : M4.1 185 = M2.1 185 := by rw [t.2.2.1 185 (by omega), row_n (by omega), k5.1 185 (by omega) (by unfold PDr; omega)]
      have f171 : ∀ i, i < 22 → M4.1 171 i = (days S.1.2.2 S.1.1 d S.1.2.1).1 i := fun i hi => by rw [t.2.2.1 171 (by omega), row_n (by omega)]; exact k1 i hi
      have f3 : M4.1 169 3 = nI S.1.1 := by rw [f2 3 (by omega) (by omega) (by unfold SDr; omega)]; exact h1.2.1
      have e28 : M4.1 169 28 = nI S.2.2.2.1.1 := by rw [f2 28 (by omega) (by omega) (by unfold SDr; omega)]; exact h4.1
      have old : ∀ j, j < S.2.2.2.1.1 → ∀ i, i < 22 → M4.1 185 (22 * j + i) = (S.2.2.2.1.2 j).1 i := fun j hj i hi => by
        rw [f185, g2 _ (by omega), rdR (by omega)]
        exact h4.2 j hj i hi
      have hnew : ∀ i, i < 22 → M4.1 185 (22 * S.2.2.2.1.1 + i) = S.1.2.1.1 i := fun i hi => by
        rw [f185, g1 i hi, rdR (by omega)]
        exact h1.2.2.1 i hi
      have fin : ∀ y : Int32, Ok (fX10_adds y M4) (fun q => q.1 = y ∧ RRel (rowS (actS S (days S.1.2.2 S.1.1 d S.1.2.1)) (some [(nI (dts S.1.2.2 S.1.1 S.1.2.1 d)).toInt64])) q.2 ∧ RFr M1 q.2) := by
        intro y
        refine ok_mono (r_adds (n := S.1.1) h15 e28 old hnew) (fun q p => ⟨p.1, ?_, fun a ha => ⟨?_, ?_⟩, ?_⟩)
        · obtain ⟨p1, p2, p3⟩ := p
          refine rrel_all hr0 ⟨rfl, rfl⟩ hwd (by rw [p3.1 175 (by omega) (by omega)]; exact f1 175 (by omega) (by omega) (by omega) (by unfold PRr; omega)) (fun i hi => by rw [p3.2.1 i (by omega)]; exact f2 i (by omega) (by omega) (by unfold SDr; omega)) (fun i hi => by rw [p3.1 171 (by omega) (by omega)]; exact f171 i hi) (txR_fr h2 (by rw [p3.2.1 8 (by omega)]; exact f2 8 (by omega) (by omega) (by unfold SDr; omega)) (by rw [p3.1 173 (by omega) (by omega)]; exact f1 173 (by omega) (by omega) (by omega) (by unfold PRr; omega))) ?_ p2 (kpR_fr h5 (by rw [p3.2.1 4 (by omega)]; exact f2 4 (by omega) (by omega) (by unfold SDr; omega)) (fun a ha => by rw [p3.1 a (by omega) (by omega)]; exact f1 a (by omega) (by omega) (by omega) (by unfold PRr; omega))) (hR_fr h6 (by rw [p3.2.1 45 (by omega)]; exact f2 45 (by omega) (by omega) (by unfold SDr; omega)) (fun a ha => by rw [p3.1 a (by omega) (by omega)]; exact f1 a (by omega) (by omega) (by omega) (by unfold PRr; omega)))
          exact rwR_fr (M := M4) t.2.1 (by rw [p3.2.1 1 (by omega)]) (by rw [p3.2.2])
        · rw [p.2.2.1 a (by omega) (by omega)]; exact f1 a (by omega) (by omega) (by omega) (by unfold PRr; omega)
        · rw [p.2.2.2.2, t.1.2.2.1 a (by omega), k5.2.2, g3.2.2]; rfl
        · rw [p.2.2.2.2, t.1.2.2.2, k5.2.2, g3.2.2]; rfl
      by_cases h0 : S.1.1 = 0
      · have hb := r_boatOff (x := 0) hwd ln171 f3 f171 (Or.inr (by rw [h0]; decide))
        simp (disch := omega) only [↓reduceIte, ic_t, ic_f, not_true_eq_false, not_false_eq_true, ↓lt_v, rdR, rdE, rdS, leT, leTc, leTd, leF, leFc, leFd, ltT, ltTc, ltTd, ltF, ltFc, ltFd, eqT, eqTc, eqTd, eqF, eqFc, eqFd, m1T, m1F, m1T', m1F', inb_nI, ix_nI, inb_c, ix_c, nI_1, nI_pred, nI_m1, add_nIc, add_cnI, bd_v, reduceCtorEq, eqFcc, m1e0, m1e1, m1l0, m1g0, m2l0, m2g0, Int32.reduceLT, Int32.reduceLE, Int32.reduceAdd, Int32.reduceSub, Int32.reduceMul, eq_self, Bool.false_eq_true, hb]
        rw [if_pos h0]
        exact ok_call (fin _) (fun q p => ok_some p)
      · have hb := r_boatOn (k := 0) hwd ln171 f3 f171 (by omega)
        rw [show (0 : Int32) = nI 0 from rfl, hb]
        simp (disch := omega) only [↓reduceIte, ic_t, ic_f, not_true_eq_false, not_false_eq_true, ↓lt_v, rdR, rdE, rdS, leT, leTc, leTd, leF, leFc, leFd, ltT, ltTc, ltTd, ltF, ltFc, ltFd, eqT, eqTc, eqTd, eqF, eqFc, eqFd, m1T, m1F, m1T', m1F', inb_nI, ix_nI, inb_c, ix_c, nI_1, nI_pred, nI_m1, add_nIc, add_cnI, bd_v, reduceCtorEq, eqFcc, m1e0, m1e1, m1l0, m1g0, m2l0, m2g0, Int32.reduceLT, Int32.reduceLE, Int32.reduceAdd, Int32.reduceSub, Int32.reduceMul, eq_self, Bool.false_eq_true]
        rw [if_neg h0]
        exact ok_call (fin _) (fun q p => ok_some p)
  · refine st_no (x := -2) hS hc hr ?_ (fun M1 h1 => ?_)
    · show fX9_days x M = _
      rw [e_X9_days]
      by_cases y0 : x < 0
      · simp (disch := omega) only [↓reduceIte, ic_t, ic_f, not_true_eq_false, not_false_eq_true, ↓lt_v, rdR, rdE, rdS, leT, leTc, leTd, leF, leFc, leFd, ltT, ltTc, ltTd, ltF, ltFc, ltFd, eqT, eqTc, eqTd, eqF, eqFc, eqFd, m1T, m1F, m1T', m1F', inb_nI, ix_nI, inb_c, ix_c, nI_1, nI_pred, nI_m1, add_nIc, add_cnI, bd_v, reduceCtorEq, eqFcc, m1e0, m1e1, m1l0, m1g0, m2l0, m2g0, Int32.reduceLT, Int32.reduceLE, Int32.reduceAdd, Int32.reduceSub, Int32.reduceMul, eq_self, Bool.false_eq_true, eq_true y0]
      · rcases hx2 with q | q
        · exact absurd q y0
        · simp (disch := omega) only [↓reduceIte, ic_t, ic_f, not_true_eq_false, not_false_eq_true, ↓lt_v, rdR, rdE, rdS, leT, leTc, leTd, leF, leFc, leFd, ltT, ltTc, ltTd, ltF, ltFc, ltFd, eqT, eqTc, eqTd, eqF, eqFc, eqFd, m1T, m1F, m1T', m1F', inb_nI, ix_nI, inb_c, ix_c, nI_1, nI_pred, nI_m1, add_nIc, add_cnI, bd_v, reduceCtorEq, eqFcc, m1e0, m1e1, m1l0, m1g0, m2l0, m2g0, Int32.reduceLT, Int32.reduceLE, Int32.reduceAdd, Int32.reduceSub, Int32.reduceMul, eq_self, Bool.false_eq_true, eq_false y0, gt_nle (show (60 : Int32) < x from q)]
    · have hi : ∀ M : Mem, fX10_in x.toInt64 0 60 M = some (0, M) := fun M => in_no (lo := 0) (hi := 60) (by decide) (by decide) hx
      show fX10_days x M1 = _
      rw [e_X10_days]
      simp (disch := omega) only [↓reduceIte, ic_t, ic_f, not_true_eq_false, not_false_eq_true, ↓lt_v, rdR, rdE, rdS, leT, leTc, leTd, leF, leFc, leFd, ltT, ltTc, ltTd, ltF, ltFc, ltFd, eqT, eqTc, eqTd, eqF, eqFc, eqFd, m1T, m1F, m1T', m1F', inb_nI, ix_nI, inb_c, ix_c, nI_1, nI_pred, nI_m1, add_nIc, add_cnI, bd_v, reduceCtorEq, eqFcc, m1e0, m1e1, m1l0, m1g0, m2l0, m2g0, Int32.reduceLT, Int32.reduceLE, Int32.reduceAdd, Int32.reduceSub, Int32.reduceMul, eq_self, Bool.false_eq_true, hi]
