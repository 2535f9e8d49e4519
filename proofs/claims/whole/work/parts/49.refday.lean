/-! PURE: the reference's days -/
theorem row_sI {M : Mem} {a i : Nat} {v : Int32} : (sI M a i v).1 a = up1 (M.1 a) i v := by
  funext j
  rw [rd_sI, if_pos rfl]
  rfl
theorem row_n {M : Mem} {a i b : Nat} {v : Int32} (h : b ≠ a) : (sI M a i v).1 b = M.1 b := up2_row h
def PDr (a b : Nat) : Prop := (177 ≤ b ∧ b ≤ 184) ∨ b = a
def SDr (i : Nat) : Prop := i = 23 ∨ i = 27 ∨ i = 30
theorem r_day {M : Mem} {n a : Nat} {v : VV} {F : (Nat → Int32) → Int32} (hw : WfV n v) (hl : ln a = 22) (ha : a < 169 ∨ 184 < a ∨ a = 171 ∨ a = 172) (h0 : M.1 169 3 = nI n) (hv : ∀ i, i < 22 → M.1 a i = v.1 i) (hu : RuR F M) :
    Ok (fX10_dayGoes a M) (fun M' => (∀ i, i < 22 → M'.1 a i = (day1 F n v).1 i) ∧ (∃ L, RcR n v.2 L (TT F n v) M') ∧ M'.1 169 30 = M.1 169 30 + nI (TT F n v).2.1 ∧ RuR F M' ∧ FrR (PDr a) SDr M M') := by
  obtain ⟨w, o⟩ := v
  have hw' : Wf n w o := hw
  have hn : n ≤ 6 := hw.1
  have hT : TB n (TT F n (w, o)) := tb_TT hw
  have hm : (TT F n (w, o)).2.1 ≤ 3 := m_TT hw
  obtain ⟨st, hs, h1, h2⟩ := hw.2.2.2.2
  have hs : w 19 = nI st := hs
  have hv : ∀ i, i < 22 → M.1 a i = w i := hv
  have hT0 : TT F n (w, o) = (rs F w o n st).2 := by
    show (rs F w o n (ix (w 19))).2 = _
    rw [hs, ix_nI (by omega)]
  rw [e_X10_dayGoes]
  simp (disch := omega) only [↓reduceIte, ic_t, ic_f, not_true_eq_false, not_false_eq_true, ↓lt_v, rdR, rdE, rdS, leT, leTc, leTd, leF, leFc, leFd, ltT, ltTc, ltTd, ltF, ltFc, ltFd, eqT, eqTc, eqTd, eqF, eqFc, eqFd, m1T, m1F, m1T', m1F', inb_nI, ix_nI, inb_c, ix_c, nI_1, nI_pred, nI_m1, add_nIc, add_cnI, bd_v, reduceCtorEq, eqFcc, m1e0, m1e1, m1l0, m1g0, m2l0, m2g0, Int32.reduceLT, Int32.reduceLE, Int32.reduceAdd, Int32.reduceSub, Int32.reduceMul, eq_self, Bool.false_eq_true, hl, hv, hs]
  refine ok_call (r_races (F := F) hw hl ha h0 hv hu h2) (fun M1 g => ?_)
  rw [← hT0] at g
  show Ok (fX10_dayGoes_11 FU a 0 M1) (fun M' => (∀ i, i < 22 → M'.1 a i = (dW n w o (TT F n (w, o))).1 i) ∧ _)
  generalize TT F n (w, o) = T at g hT hm ⊢
  generalize (rs F w o n st).1 = L at g
  obtain ⟨g1, g2⟩ := g
  have hv1 : ∀ i, i < 22 → M1.1 a i = w i := by rw [g2.1 a (by omega) (by unfold PRr; omega)]; exact hv
  have g30 : M1.1 169 30 = M.1 169 30 := g2.2.1 30 (by unfold ST; omega)
  have g2 : FrR (PDr a) SDr M M1 := frR_sub g2 (fun b _ hb => by unfold PRr at hb; unfold PDr; omega) (fun i hi => by unfold ST at hi; unfold SDr; omega)
  -- tired, then the rest
  have second : ∀ s, (∀ i, i < 22 → s.1 a i = (sws T.2.2.2.1 T.2.2.2.2 T.2.1 (w, o)).1 i) → RcR n o L T s → FrR (fun b => b = a) (fun _ => False) M1 s → Ok (fX10_dayGoes_73 FU a 0 s) (fun M' => (∀ i, i < 22 → M'.1 a i = (dW n w o T).1 i) ∧ (∃ L, RcR n o L T M') ∧ M'.1 169 30 = M.1 169 30 + nI T.2.1 ∧ RuR F M' ∧ FrR (PDr a) SDr M M') := by
    intro s k1 k2 k3
    have hFU : 2000 < FU := FU_big
    generalize FU = fu0 at hFU ⊢
    refine ok_loop n (fun fu k s => fX10_dayGoes_73 fu a (nI k) s) (fun k s => (∀ i, i < 22 → s.1 a i = if 6 ≤ i ∧ i < 6 + k then cl9 (w i + (if T.1 (ix (w (6 + i))) = true then 1 else -1)) else (sws T.2.2.2.1 T.2.2.2.2 T.2.1 (w, o)).1 i) ∧ RcR n o L T s ∧ FrR (fun b => b = a) (fun _ => False) M1 s) ?_ ?_ fu0 0 s (by omega) (by omega) ⟨?_, k2, k3⟩
    · intro fu b s hb hs ih
      obtain ⟨b1, b2, b3⟩ := hs
      obtain ⟨k, hk, rfl⟩ := hw'.2.2.1 b hb
      have hok : o k < n := hb
      have hwk : w (12 + o k) = nI k := (hw.2.1 k hk).2
      obtain ⟨c1, c2, c3, ⟨x, hx, x1, x2, x3⟩, c5, c6⟩ := b2
      have hhas : ∀ s1 : Mem, fX10_has (nI x) (nI (o k)) s1 = some (bI (T.1 k), s1) := fun s1 => by rw [r_has hx (by omega), x2 k hk]
      have b1v : s.1 a (6 + o k) = w (6 + o k) := by
        rw [b1 _ (by omega), if_neg (by omega), sws_lo (by omega)]
      have hfin : ∀ y, y = cl9 (w (6 + o k) + (if T.1 k = true then 1 else -1)) → Ok (fX10_dayGoes_73 fu a (nI (o k + 1)) (sI s a (6 + o k) y)) (fun M' => (∀ i, i < 22 → M'.1 a i = (dW n w o T).1 i) ∧ (∃ L, RcR n o L T M') ∧ M'.1 169 30 = M.1 169 30 + nI T.2.1 ∧ RuR F M' ∧ FrR (PDr a) SDr M M') := by
        intro y hy
        refine ih _ ⟨?_, rcR_fr (P := fun b => b = a) (S := fun _ => False) ⟨c1, c2, c3, ⟨x, hx, x1, x2, x3⟩, c5, c6⟩ (frR_sI (by omega) (by omega)) (fun b hb => by omega) (fun i hi => hi.elim), frR_trans b3 (frR_sI (by omega) (by omega))⟩
        intro i hi
        rw [row_sI]
        by_cases e : i = 6 + o k
        · subst e
          rw [up1_e rfl, hy, if_pos (show 6 ≤ 6 + o k ∧ 6 + o k < 6 + (o k + 1) by omega), show 6 + (6 + o k) = 12 + o k by omega, hwk, ix_nI (by omega)]
        · rw [up1_n e, b1 i hi]
          by_cases e2 : 6 ≤ i ∧ i < 6 + o k
          · rw [if_pos e2, if_pos (show 6 ≤ i ∧ i < 6 + (o k + 1) by omega)]
          · rw [if_neg e2, if_neg (show ¬ (6 ≤ i ∧ i < 6 + (o k + 1)) by omega)]
      rw [e_X10_dayGoes_73]
      simp (disch := omega) only [↓reduceIte, ic_t, ic_f, not_true_eq_false, not_false_eq_true, ↓lt_v, rdR, rdE, rdS, leT, leTc, leTd, leF, leFc, leFd, ltT, ltTc, ltTd, ltF, ltFc, ltFd, eqT, eqTc, eqTd, eqF, eqFc, eqFd, m1T, m1F, m1T', m1F', inb_nI, ix_nI, inb_c, ix_c, nI_1, nI_pred, nI_m1, add_nIc, add_cnI, bd_v, reduceCtorEq, eqFcc, m1e0, m1e1, m1l0, m1g0, m2l0, m2g0, Int32.reduceLT, Int32.reduceLE, Int32.reduceAdd, Int32.reduceSub, Int32.reduceMul, eq_self, Bool.false_eq_true, c1, hl, x1, hhas, bI_0, e_X10_dayGoes_111, b1v]
      cases hg : T.1 k
      · simp (disch := omega) only [↓reduceIte, ic_t, ic_f, not_true_eq_false, not_false_eq_true, ↓lt_v, rdR, rdE, rdS, leT, leTc, leTd, leF, leFc, leFd, ltT, ltTc, ltTd, ltF, ltFc, ltFd, eqT, eqTc, eqTd, eqF, eqFc, eqFd, m1T, m1F, m1T', m1F', inb_nI, ix_nI, inb_c, ix_c, nI_1, nI_pred, nI_m1, add_nIc, add_cnI, bd_v, reduceCtorEq, eqFcc, m1e0, m1e1, m1l0, m1g0, m2l0, m2g0, Int32.reduceLT, Int32.reduceLE, Int32.reduceAdd, Int32.reduceSub, Int32.reduceMul, eq_self, Bool.false_eq_true]
        refine hfin _ ?_
        rw [hg]
        rfl
      · simp (disch := omega) only [↓reduceIte, ic_t, ic_f, not_true_eq_false, not_false_eq_true, ↓lt_v, rdR, rdE, rdS, leT, leTc, leTd, leF, leFc, leFd, ltT, ltTc, ltTd, ltF, ltFc, ltFd, eqT, eqTc, eqTd, eqF, eqFc, eqFd, m1T, m1F, m1T', m1F', inb_nI, ix_nI, inb_c, ix_c, nI_1, nI_pred, nI_m1, add_nIc, add_cnI, bd_v, reduceCtorEq, eqFcc, m1e0, m1e1, m1l0, m1g0, m2l0, m2g0, Int32.reduceLT, Int32.reduceLE, Int32.reduceAdd, Int32.reduceSub, Int32.reduceMul, eq_self, Bool.false_eq_true]
        refine hfin _ ?_
        rw [hg]
        rfl
    · intro fu s hs
      obtain ⟨b1, b2, b3⟩ := hs
      have c1 := b2.1
      have c5 := b2.2.2.2.2.1
      have e30 : s.1 169 30 = M.1 169 30 := by rw [b3.2.1 30 (fun q => q), g30]
      have e21 : s.1 a 21 = (sws T.2.2.2.1 T.2.2.2.2 T.2.1 (w, o)).1 21 := by rw [b1 _ (by omega)]; exact if_neg (by omega)
      have e20 : s.1 a 20 = (sws T.2.2.2.1 T.2.2.2.2 T.2.1 (w, o)).1 20 := by rw [b1 _ (by omega)]; exact if_neg (by omega)
      rw [e_X10_dayGoes_73]
      simp (disch := omega) only [↓reduceIte, ic_t, ic_f, not_true_eq_false, not_false_eq_true, ↓lt_v, rdR, rdE, rdS, leT, leTc, leTd, leF, leFc, leFd, ltT, ltTc, ltTd, ltF, ltFc, ltFd, eqT, eqTc, eqTd, eqF, eqFc, eqFd, m1T, m1F, m1T', m1F', inb_nI, ix_nI, inb_c, ix_c, nI_1, nI_pred, nI_m1, add_nIc, add_cnI, bd_v, reduceCtorEq, eqFcc, m1e0, m1e1, m1l0, m1g0, m2l0, m2g0, Int32.reduceLT, Int32.reduceLE, Int32.reduceAdd, Int32.reduceSub, Int32.reduceMul, eq_self, Bool.false_eq_true, c1, c5, hl, e30, e21, e20]
      have hfr : FrR (PDr a) (fun i => i = 30) s (sI (sI (sI s 169 30 (M.1 169 30 + nI T.2.1)) a 21 (if (sws T.2.2.2.1 T.2.2.2.2 T.2.1 (w, o)).1 21 + nI T.2.1 < 9999 then (sws T.2.2.2.1 T.2.2.2.2 T.2.1 (w, o)).1 21 + nI T.2.1 else 9999)) a 20 ((sws T.2.2.2.1 T.2.2.2.2 T.2.1 (w, o)).1 20 + 1)) := by
        unfold PDr
        repeat (first | exact frR_rfl | refine frR_trans ?_ (frR_sI (by omega) (by omega)))
      have hall : FrR (PDr a) SDr M s := frR_trans g2 (frR_sub b3 (fun b _ hb => by unfold PDr; omega) (fun i hi => hi.elim))
      refine ok_some ⟨?_, ⟨L, ?_⟩, ?_, ?_, ?_⟩
      · intro i hi
        rw [row_sI, row_sI, show (sI s 169 30 (M.1 169 30 + nI T.2.1)).1 a = s.1 a from up2_row (by omega)]
        unfold dW
        show up1 _ _ _ i = up1 _ _ _ i
        unfold up1
        rw [b1 i hi]
      · obtain ⟨c1, c2, c3, ⟨x, hx, x1, x2, x3⟩, c5, c6⟩ := b2
        refine ⟨by simp (disch := omega) only [↓reduceIte, ic_t, ic_f, not_true_eq_false, not_false_eq_true, ↓lt_v, rdR, rdE, rdS, leT, leTc, leTd, leF, leFc, leFd, ltT, ltTc, ltTd, ltF, ltFc, ltFd, eqT, eqTc, eqTd, eqF, eqFc, eqFd, m1T, m1F, m1T', m1F', inb_nI, ix_nI, inb_c, ix_c, nI_1, nI_pred, nI_m1, add_nIc, add_cnI, bd_v, reduceCtorEq, eqFcc, m1e0, m1e1, m1l0, m1g0, m2l0, m2g0, Int32.reduceLT, Int32.reduceLE, Int32.reduceAdd, Int32.reduceSub, Int32.reduceMul, eq_self, Bool.false_eq_true, c1], ?_, ?_, ⟨x, hx, by simp (disch := omega) only [↓reduceIte, ic_t, ic_f, not_true_eq_false, not_false_eq_true, ↓lt_v, rdR, rdE, rdS, leT, leTc, leTd, leF, leFc, leFd, ltT, ltTc, ltTd, ltF, ltFc, ltFd, eqT, eqTc, eqTd, eqF, eqFc, eqFd, m1T, m1F, m1T', m1F', inb_nI, ix_nI, inb_c, ix_c, nI_1, nI_pred, nI_m1, add_nIc, add_cnI, bd_v, reduceCtorEq, eqFcc, m1e0, m1e1, m1l0, m1g0, m2l0, m2g0, Int32.reduceLT, Int32.reduceLE, Int32.reduceAdd, Int32.reduceSub, Int32.reduceMul, eq_self, Bool.false_eq_true, x1], x2, x3⟩, by simp (disch := omega) only [↓reduceIte, ic_t, ic_f, not_true_eq_false, not_false_eq_true, ↓lt_v, rdR, rdE, rdS, leT, leTc, leTd, leF, leFc, leFd, ltT, ltTc, ltTd, ltF, ltFc, ltFd, eqT, eqTc, eqTd, eqF, eqFc, eqFd, m1T, m1F, m1T', m1F', inb_nI, ix_nI, inb_c, ix_c, nI_1, nI_pred, nI_m1, add_nIc, add_cnI, bd_v, reduceCtorEq, eqFcc, m1e0, m1e1, m1l0, m1g0, m2l0, m2g0, Int32.reduceLT, Int32.reduceLE, Int32.reduceAdd, Int32.reduceSub, Int32.reduceMul, eq_self, Bool.false_eq_true, c5], ?_⟩
        · intro k hk; simp (disch := omega) only [↓reduceIte, ic_t, ic_f, not_true_eq_false, not_false_eq_true, ↓lt_v, rdR, rdE, rdS, leT, leTc, leTd, leF, leFc, leFd, ltT, ltTc, ltTd, ltF, ltFc, ltFd, eqT, eqTc, eqTd, eqF, eqFc, eqFd, m1T, m1F, m1T', m1F', inb_nI, ix_nI, inb_c, ix_c, nI_1, nI_pred, nI_m1, add_nIc, add_cnI, bd_v, reduceCtorEq, eqFcc, m1e0, m1e1, m1l0, m1g0, m2l0, m2g0, Int32.reduceLT, Int32.reduceLE, Int32.reduceAdd, Int32.reduceSub, Int32.reduceMul, eq_self, Bool.false_eq_true, c2]
        · intro k hk; simp (disch := omega) only [↓reduceIte, ic_t, ic_f, not_true_eq_false, not_false_eq_true, ↓lt_v, rdR, rdE, rdS, leT, leTc, leTd, leF, leFc, leFd, ltT, ltTc, ltTd, ltF, ltFc, ltFd, eqT, eqTc, eqTd, eqF, eqFc, eqFd, m1T, m1F, m1T', m1F', inb_nI, ix_nI, inb_c, ix_c, nI_1, nI_pred, nI_m1, add_nIc, add_cnI, bd_v, reduceCtorEq, eqFcc, m1e0, m1e1, m1l0, m1g0, m2l0, m2g0, Int32.reduceLT, Int32.reduceLE, Int32.reduceAdd, Int32.reduceSub, Int32.reduceMul, eq_self, Bool.false_eq_true, c3]
        · intro i hi; simp (disch := omega) only [↓reduceIte, ic_t, ic_f, not_true_eq_false, not_false_eq_true, ↓lt_v, rdR, rdE, rdS, leT, leTc, leTd, leF, leFc, leFd, ltT, ltTc, ltTd, ltF, ltFc, ltFd, eqT, eqTc, eqTd, eqF, eqFc, eqFd, m1T, m1F, m1T', m1F', inb_nI, ix_nI, inb_c, ix_c, nI_1, nI_pred, nI_m1, add_nIc, add_cnI, bd_v, reduceCtorEq, eqFcc, m1e0, m1e1, m1l0, m1g0, m2l0, m2g0, Int32.reduceLT, Int32.reduceLE, Int32.reduceAdd, Int32.reduceSub, Int32.reduceMul, eq_self, Bool.false_eq_true]; exact c6 i hi
      · simp (disch := omega) only [↓reduceIte, ic_t, ic_f, not_true_eq_false, not_false_eq_true, ↓lt_v, rdR, rdE, rdS, leT, leTc, leTd, leF, leFc, leFd, ltT, ltTc, ltTd, ltF, ltFc, ltFd, eqT, eqTc, eqTd, eqF, eqFc, eqFd, m1T, m1F, m1T', m1F', inb_nI, ix_nI, inb_c, ix_c, nI_1, nI_pred, nI_m1, add_nIc, add_cnI, bd_v, reduceCtorEq, eqFcc, m1e0, m1e1, m1l0, m1g0, m2l0, m2g0, Int32.reduceLT, Int32.reduceLE, Int32.reduceAdd, Int32.reduceSub, Int32.reduceMul, eq_self, Bool.false_eq_true]
      · refine ruR_fr hu ?_ ?_
        · rw [hfr.1 175 (by omega) (by unfold PDr; omega), hall.1 175 (by omega) (by unfold PDr; omega)]
        · rw [hfr.2.1 16 (by omega), hall.2.1 16 (by unfold SDr; omega)]
      · exact frR_trans hall (frR_sub hfr (fun b _ hb => hb) (fun i hi => by unfold SDr; omega))
    · intro i hi
      rw [k1 i hi, if_neg (by omega)]
  have hFU : 2000 < FU := FU_big
  generalize FU = fu0 at hFU ⊢
  refine ok_loop T.2.1 (fun fu k s => fX10_dayGoes_11 fu a (nI k) s) (fun k s => (∀ i, i < 22 → s.1 a i = (sws T.2.2.2.1 T.2.2.2.2 k (w, o)).1 i) ∧ RcR n o L T s ∧ FrR (fun b => b = a) (fun _ => False) M1 s) ?_ ?_ fu0 0 M1 (by omega) (by omega) ⟨hv1, g1, frR_rfl⟩
  · intro fu k s hk hs ih
    obtain ⟨b1, b2, b3⟩ := hs
    have c5 := b2.2.2.2.2.1
    have c6 := b2.2.2.2.2.2 k hk
    obtain ⟨⟨x, hx, ex⟩, y, hy, ey⟩ := hT k hk
    rw [e_X10_dayGoes_11]
    simp (disch := omega) only [↓reduceIte, ic_t, ic_f, not_true_eq_false, not_false_eq_true, ↓lt_v, rdR, rdE, rdS, leT, leTc, leTd, leF, leFc, leFd, ltT, ltTc, ltTd, ltF, ltFc, ltFd, eqT, eqTc, eqTd, eqF, eqFc, eqFd, m1T, m1F, m1T', m1F', inb_nI, ix_nI, inb_c, ix_c, nI_1, nI_pred, nI_m1, add_nIc, add_cnI, bd_v, reduceCtorEq, eqFcc, m1e0, m1e1, m1l0, m1g0, m2l0, m2g0, Int32.reduceLT, Int32.reduceLE, Int32.reduceAdd, Int32.reduceSub, Int32.reduceMul, eq_self, Bool.false_eq_true, c5, c6.2.1, c6.2.2, ex, ey, hl]
    refine ih _ ⟨?_, rcR_fr (P := fun b => b = a) (S := fun _ => False) b2 (by repeat (first | exact frR_rfl | refine frR_trans ?_ (frR_sI (by omega) (by omega)))) (fun b hb => by omega) (fun i hi => hi.elim), frR_trans b3 (by repeat (first | exact frR_rfl | refine frR_trans ?_ (frR_sI (by omega) (by omega))))⟩
    intro i hi
    rw [row_sI, row_sI, b1 _ (by omega), b1 _ (by omega)]
    show _ = (swp (ix (T.2.2.2.1 k)) (ix (T.2.2.2.2 k)) (sws T.2.2.2.1 T.2.2.2.2 k (w, o))).1 i
    rw [ex, ey, ix_nI (by omega), ix_nI (by omega)]
    show up1 _ _ _ i = up1 _ _ _ i
    unfold up1
    rw [b1 i hi]
  · intro fu s hs
    obtain ⟨b1, b2, b3⟩ := hs
    have c5 := b2.2.2.2.2.1
    rw [e_X10_dayGoes_11]
    simp (disch := omega) only [↓reduceIte, ic_t, ic_f, not_true_eq_false, not_false_eq_true, ↓lt_v, rdR, rdE, rdS, leT, leTc, leTd, leF, leFc, leFd, ltT, ltTc, ltTd, ltF, ltFc, ltFd, eqT, eqTc, eqTd, eqF, eqFc, eqFd, m1T, m1F, m1T', m1F', inb_nI, ix_nI, inb_c, ix_c, nI_1, nI_pred, nI_m1, add_nIc, add_cnI, bd_v, reduceCtorEq, eqFcc, m1e0, m1e1, m1l0, m1g0, m2l0, m2g0, Int32.reduceLT, Int32.reduceLE, Int32.reduceAdd, Int32.reduceSub, Int32.reduceMul, eq_self, Bool.false_eq_true, c5]
    exact second s b1 b2 b3
