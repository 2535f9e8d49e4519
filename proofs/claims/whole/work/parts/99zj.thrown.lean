/-! PURE: boat, at, row: answers or throws -/
def gX9_boat (x1 x2 : Int32) (M : Mem) : Option (Option Int32 × Mem) := (fX4_has 6 x1 M).bind fun q1 => if q1.1 = 0 then some (none, q1.2) else if x2 = 0 then (if inb x1 6 then some (some (q1.2.1 7 (ix x1)), q1.2) else none) else if x2 = 1 then (if inb x1 6 then some (some (q1.2.1 8 (ix x1)), q1.2) else none) else if x2 = 2 then (if inb x1 6 then some (some (q1.2.1 9 (ix x1)), q1.2) else none) else if x2 = 3 then (if inb x1 6 then (fX4_boatOn 6 ((q1.2.1 9 (ix x1)) - 1) q1.2).bind fun q2 => some (some q2.1, q2.2) else none) else if x2 = 4 then (fX3_run 6 (q1.2.2.2 1 17) q1.2).bind fun q3 => (fX3_touchedBy x1 q3).bind fun q4 => some (some q4.1, q4.2) else if x2 = 5 then (fX3_run 6 (q1.2.2.2 1 17) q1.2).bind fun q3 => (fX3_toucherOf x1 q3).bind fun q4 => some (some q4.1, q4.2) else some (none, q1.2)
def gX9_at (x1 : Int32) (M : Mem) : Option (Option Int32 × Mem) := (fX4_boatOn 6 x1 M).bind fun q1 => if q1.1 < 0 then some (none, q1.2) else some (some q1.1, q1.2)
def gX9_row (x1 : Int32) (M : Mem) : Option (Option Int64 × Mem) := if x1 < 0 then some (none, M) else if (M.1 4 1) ≤ x1 then some (none, M) else (if inb x1 16 then some (some (M.2.1 5 (ix x1)), M) else none)
def rBt (x1 x2 z : Int32) (M : Mem) : Option (Int32 × Mem) := ic (x2 = 0) ((ic (inb x1 22) (some (M.1 171 (ix x1), M)) (none))) ((ic (x2 = 1) ((ic (inb (6 + x1) 22) (some (M.1 171 (ix (6 + x1)), M)) (none))) ((ic (x2 = 2) ((ic (inb (12 + x1) 22) (some (M.1 171 (ix (12 + x1)), M)) (none))) ((ic (x2 = 3) ((ic (inb (12 + x1) 22) ((fX10_boatOn 171 ((M.1 171 (ix (12 + x1))) - 1) M).bind fun q22 => some (q22.1, q22.2)) (none))) ((ic (x2 = 4) ((ic (0 ≤ z) ((ic (inb z 6) (some (M.1 184 (ix z), M)) (none))) ((some ((-1), M))))) (((fX10_touchedBy x1 M).bind fun q27 => some (q27.1, q27.2)))))))))))
def thr {V : Type} (o : Option V) : Int32 := match o with
  | none => 1
  | some _ => 0
/-- both answer alike or both refuse; the law's own cell may be written between -/
def StT {V : Type} (gC : Mem → Option (Option V × Mem)) (fR : Mem → Option (V × Mem)) (M : Mem) : Prop := Ok (gC M) (fun q1 => ∀ M1 : Mem, (M1 = q1.2 ∨ ∃ w : Int64, M1 = sJ q1.2 205 0 w) → Ok (fR M1) (fun q2 => q2.2.1 169 0 = thr q1.1 ∧ (∀ v, q1.1 = some v → v = q2.1) ∧ q2.2.2 = M1.2 ∧ Rel q2.2))
theorem sJ_crel {S : SP} {M : Mem} {w : Int64} (h : CRel S M) : CRel S (sJ M 205 0 w) := crel_fr h ⟨fun a ha => ⟨rfl, show up2 M.2.1 205 0 w a = M.2.1 a from up2_row (by omega)⟩, rfl⟩
theorem sJ_rrel {S : SP} {M : Mem} {w : Int64} (h : RRel S M) : RRel S (sJ M 205 0 w) := by
  obtain ⟨h1, h2, h3, h4, h5, h6⟩ := h
  exact ⟨⟨h1.1, h1.2.1, h1.2.2.1, ruR_fr h1.2.2.2 rfl rfl⟩, h2, rwR_fr h3 rfl (show up2 M.2.1 205 0 w 170 = M.2.1 170 from up2_row (by omega)), h4, h5, h6⟩
theorem stT_gen {V : Type} {S : SP} {M : Mem} {gC : Mem → Option (Option V × Mem)} {fR : Mem → Option (V × Mem)} {x : Option V} (hS : spOK S) (hc : CRel S M) (hr : RRel S M) (qc : Ok (gC M) (fun q => q.1 = x ∧ Fr SC M q.2)) (qr : ∀ M1, RRel S M1 → Ok (fR M1) (fun q => q.2.1 169 0 = thr x ∧ (∀ v, x = some v → v = q.1) ∧ FrR SR SS1 M1 q.2)) : StT gC fR M := by
  refine ok_mono qc (fun q1 h1 M1 hM1 => ?_)
  have c1 : CRel S q1.2 := crel_frS hc h1.2 (fun a ha => ha)
  have r1 : RRel S q1.2 := rrel_fr hr (fr_cfr h1.2 (fun a ha => by unfold SC at ha; omega))
  have cr : CRel S M1 ∧ RRel S M1 := by
    rcases hM1 with e | ⟨w, e⟩
    · rw [e]; exact ⟨c1, r1⟩
    · rw [e]; exact ⟨sJ_crel c1, sJ_rrel r1⟩
  refine ok_mono (qr M1 cr.2) (fun q2 h2 => ⟨by rw [h1.1]; exact h2.1, by rw [h1.1]; exact h2.2.1, h2.2.2.2.2, S, hS, ?_, ?_⟩)
  · exact crel_fr cr.1 (rfr_of h2.2.2 (fun a ha => by unfold SR at ha; omega))
  · exact rrel_frS cr.2 h2.2.2 (fun a ha => ha) (fun i hi => hi)
theorem st_at {M : Mem} {x : Int32} (h : Rel M) : StT (fun M => gX9_at x M) (fun M => fX10_at x M) M := by
  obtain ⟨S, hS, hc, hr⟩ := h
  have hn : S.1.1 ≤ 6 := hS.1.1
  rcases in_cases x (n := S.1.1) (by omega) with ⟨b, hb, rfl⟩ | hx
  · have hbl := (hS.1.2.1 b hb).1
    refine stT_gen (x := some (nI (S.1.2.1.2 b))) hS hc hr ?_ (fun M1 h1 => ?_)
    · show Ok (gX9_at (nI b) M) _
      unfold gX9_at
      rw [c_boatOn hn hc.1.2.1 hb, bd_v, if_neg (nI_pos (by omega))]
      exact ok_some ⟨rfl, fr_rfl⟩
    · obtain ⟨hc0, hf0⟩ := r_thrown0 h1.1
      have hh := r_isBoat_in hc0.2.1 hn hb
      have hbo := r_boatOn (k := b) hS.1 ln171 hc0.2.1 hc0.2.2.1 hb
      show Ok (fX10_at (nI b) M1) _
      rw [e_X10_at]
      simp (disch := omega) only [↓reduceIte, ic_t, ic_f, not_true_eq_false, not_false_eq_true, ↓lt_v, rdR, rdE, rdS, leT, leTc, leTd, leF, leFc, leFd, ltT, ltTc, ltTd, ltF, ltFc, ltFd, eqT, eqTc, eqTd, eqF, eqFc, eqFd, m1T, m1F, m1T', m1F', inb_nI, ix_nI, inb_c, ix_c, nI_1, nI_pred, nI_m1, add_nIc, add_cnI, bd_v, reduceCtorEq, eqFcc, m1e0, m1e1, m1l0, m1g0, m2l0, m2g0, Int32.reduceLT, Int32.reduceLE, Int32.reduceAdd, Int32.reduceSub, Int32.reduceMul, eq_self, Bool.false_eq_true, hh, hbo]
      exact ok_some ⟨by simp (disch := omega) only [↓reduceIte, ic_t, ic_f, not_true_eq_false, not_false_eq_true, ↓lt_v, rdR, rdE, rdS, leT, leTc, leTd, leF, leFc, leFd, ltT, ltTc, ltTd, ltF, ltFc, ltFd, eqT, eqTc, eqTd, eqF, eqFc, eqFd, m1T, m1F, m1T', m1F', inb_nI, ix_nI, inb_c, ix_c, nI_1, nI_pred, nI_m1, add_nIc, add_cnI, bd_v, reduceCtorEq, eqFcc, m1e0, m1e1, m1l0, m1g0, m2l0, m2g0, Int32.reduceLT, Int32.reduceLE, Int32.reduceAdd, Int32.reduceSub, Int32.reduceMul, eq_self, Bool.false_eq_true]; rfl, fun v e => by cases e; rfl, hf0⟩
  · refine stT_gen (x := none) hS hc hr ?_ (fun M1 h1 => ?_)
    · show Ok (gX9_at x M) _
      unfold gX9_at
      rw [c_boatOff hc.1.2.1 hx, bd_v, if_pos m1lt0]
      exact ok_some ⟨rfl, fr_rfl⟩
    · obtain ⟨hc0, hf0⟩ := r_thrown0 h1.1
      show Ok (fX10_at x M1) _
      rw [e_X10_at]
      simp (disch := omega) only [↓reduceIte, ic_t, ic_f, not_true_eq_false, not_false_eq_true, ↓lt_v, rdR, rdE, rdS, leT, leTc, leTd, leF, leFc, leFd, ltT, ltTc, ltTd, ltF, ltFc, ltFd, eqT, eqTc, eqTd, eqF, eqFc, eqFd, m1T, m1F, m1T', m1F', inb_nI, ix_nI, inb_c, ix_c, nI_1, nI_pred, nI_m1, add_nIc, add_cnI, bd_v, reduceCtorEq, eqFcc, m1e0, m1e1, m1l0, m1g0, m2l0, m2g0, Int32.reduceLT, Int32.reduceLE, Int32.reduceAdd, Int32.reduceSub, Int32.reduceMul, eq_self, Bool.false_eq_true, bad_isB h1 hx, e_X10_refuse]
      exact ok_some ⟨by simp (disch := omega) only [↓reduceIte, ic_t, ic_f, not_true_eq_false, not_false_eq_true, ↓lt_v, rdR, rdE, rdS, leT, leTc, leTd, leF, leFc, leFd, ltT, ltTc, ltTd, ltF, ltFc, ltFd, eqT, eqTc, eqTd, eqF, eqFc, eqFd, m1T, m1F, m1T', m1F', inb_nI, ix_nI, inb_c, ix_c, nI_1, nI_pred, nI_m1, add_nIc, add_cnI, bd_v, reduceCtorEq, eqFcc, m1e0, m1e1, m1l0, m1g0, m2l0, m2g0, Int32.reduceLT, Int32.reduceLE, Int32.reduceAdd, Int32.reduceSub, Int32.reduceMul, eq_self, Bool.false_eq_true]; rfl, (fun v e => by cases e), frR_trans hf0 (frR_sI (by omega) (by unfold SS1 SS; omega))⟩
theorem st_row {M : Mem} {x : Int32} (h : Rel M) : StT (fun M => gX9_row x M) (fun M => fX10_row x M) M := by
  obtain ⟨S, hS, hc, hr⟩ := h
  have h16 := hS.2.1
  have c4 := hc.2.2.2.1
  have hin : ∀ M1, RRel S M1 → fX10_in x.toInt64 0 (((M1.1 169 1) - 1).toInt64) (sI M1 169 0 0) = some (if (0 : Int) ≤ x.toInt ∧ x.toInt ≤ (S.2.2.1.length : Int) - 1 then 1 else 0, sI M1 169 0 0) := fun M1 h1 => by
    have r4 := h1.2.2.1.1
    rw [r4]
    have e : (nI S.2.2.1.length - 1).toInt64.toInt = (S.2.2.1.length : Int) - 1 := by
      rw [Int32.toInt_toInt64]
      cases hl : S.2.2.1.length with
      | zero => decide
      | succ m => rw [nI_pred, nI_toInt (by omega)]; omega
    rw [r_inI (lo := 0) (hi := (S.2.2.1.length : Int) - 1) (by decide) e]
  rcases in_cases x (n := S.2.2.1.length) (by omega) with ⟨b, hb, rfl⟩ | hx
  · refine stT_gen (x := some (S.2.2.1.getD b 0)) hS hc hr ?_ (fun M1 h1 => ?_)
    · show Ok (gX9_row (nI b) M) _
      unfold gX9_row
      rw [if_neg (nI_pos (by omega)), c4.1, if_neg (show ¬ nI S.2.2.1.length ≤ nI b by rw [le_nI (by omega) (by omega)]; omega), if_pos (inb_nI (by omega) (by omega)), ix_nI (by omega), c4.2 b hb]
      exact ok_some ⟨rfl, fr_rfl⟩
    · obtain ⟨hc0, hf0⟩ := r_thrown0 h1.1
      have hi := hin M1 h1
      rw [nI_toInt (by omega), if_pos (by omega)] at hi
      have r5 := h1.2.2.1.2 b hb
      show Ok (fX10_row (nI b) M1) _
      rw [e_X10_row]
      simp (disch := omega) only [↓reduceIte, ic_t, ic_f, not_true_eq_false, not_false_eq_true, ↓lt_v, rdR, rdE, rdS, leT, leTc, leTd, leF, leFc, leFd, ltT, ltTc, ltTd, ltF, ltFc, ltFd, eqT, eqTc, eqTd, eqF, eqFc, eqFd, m1T, m1F, m1T', m1F', inb_nI, ix_nI, inb_c, ix_c, nI_1, nI_pred, nI_m1, add_nIc, add_cnI, bd_v, reduceCtorEq, eqFcc, m1e0, m1e1, m1l0, m1g0, m2l0, m2g0, Int32.reduceLT, Int32.reduceLE, Int32.reduceAdd, Int32.reduceSub, Int32.reduceMul, eq_self, Bool.false_eq_true, hi]
      refine ok_some ⟨by simp (disch := omega) only [↓reduceIte, ic_t, ic_f, not_true_eq_false, not_false_eq_true, ↓lt_v, rdR, rdE, rdS, leT, leTc, leTd, leF, leFc, leFd, ltT, ltTc, ltTd, ltF, ltFc, ltFd, eqT, eqTc, eqTd, eqF, eqFc, eqFd, m1T, m1F, m1T', m1F', inb_nI, ix_nI, inb_c, ix_c, nI_1, nI_pred, nI_m1, add_nIc, add_cnI, bd_v, reduceCtorEq, eqFcc, m1e0, m1e1, m1l0, m1g0, m2l0, m2g0, Int32.reduceLT, Int32.reduceLE, Int32.reduceAdd, Int32.reduceSub, Int32.reduceMul, eq_self, Bool.false_eq_true]; rfl, fun v e => ?_, hf0⟩
      injection e with e
      rw [← e]
      exact r5.symm
  · refine stT_gen (x := none) hS hc hr ?_ (fun M1 h1 => ?_)
    · show Ok (gX9_row x M) _
      unfold gX9_row
      by_cases c : x < 0
      · rw [if_pos c]
        exact ok_some ⟨rfl, fr_rfl⟩
      · rw [if_neg c, c4.1, if_pos (by rcases hx with q | q; exact absurd q c; exact q)]
        exact ok_some ⟨rfl, fr_rfl⟩
    · obtain ⟨hc0, hf0⟩ := r_thrown0 h1.1
      have hi := hin M1 h1
      rw [if_neg (fun q => by
        rcases hx with w | w
        · rw [Int32.lt_iff_toInt_lt] at w
          have : (0 : Int32).toInt = 0 := by decide
          omega
        · rw [Int32.le_iff_toInt_le, nI_toInt (by omega)] at w
          omega)] at hi
      show Ok (fX10_row x M1) _
      rw [e_X10_row]
      simp (disch := omega) only [↓reduceIte, ic_t, ic_f, not_true_eq_false, not_false_eq_true, ↓lt_v, rdR, rdE, rdS, leT, leTc, leTd, leF, leFc, leFd, ltT, ltTc, ltTd, ltF, ltFc, ltFd, eqT, eqTc, eqTd, eqF, eqFc, eqFd, m1T, m1F, m1T', m1F', inb_nI, ix_nI, inb_c, ix_c, nI_1, nI_pred, nI_m1, add_nIc, add_cnI, bd_v, reduceCtorEq, eqFcc, m1e0, m1e1, m1l0, m1g0, m2l0, m2g0, Int32.reduceLT, Int32.reduceLE, Int32.reduceAdd, Int32.reduceSub, Int32.reduceMul, eq_self, Bool.false_eq_true, hi]
      exact ok_some ⟨by simp (disch := omega) only [↓reduceIte, ic_t, ic_f, not_true_eq_false, not_false_eq_true, ↓lt_v, rdR, rdE, rdS, leT, leTc, leTd, leF, leFc, leFd, ltT, ltTc, ltTd, ltF, ltFc, ltFd, eqT, eqTc, eqTd, eqF, eqFc, eqFd, m1T, m1F, m1T', m1F', inb_nI, ix_nI, inb_c, ix_c, nI_1, nI_pred, nI_m1, add_nIc, add_cnI, bd_v, reduceCtorEq, eqFcc, m1e0, m1e1, m1l0, m1g0, m2l0, m2g0, Int32.reduceLT, Int32.reduceLE, Int32.reduceAdd, Int32.reduceSub, Int32.reduceMul, eq_self, Bool.false_eq_true]; rfl, (fun v e => by cases e), frR_trans hf0 (frR_sI (by omega) (by unfold SS1 SS; omega))⟩
theorem st_boat {M : Mem} {x y : Int32} (h : Rel M) : StT (fun M => gX9_boat x y M) (fun M => fX10_boat x y M) M := by
  obtain ⟨S, hS, hc, hr⟩ := h
  have hn : S.1.1 ≤ 6 := hS.1.1
  rcases in_cases x (n := S.1.1) (by omega) with ⟨b, hb, rfl⟩ | hx
  · have hh := has_in hc.1.2.1.1 hn hb
    rcases range_cases y 0 5 (by omega) (by omega) with ⟨d, _, hd, rfl⟩ | ⟨hy, hy2⟩
    · have hpl := wf_plv hS.1 hb
      have hm := m_TT (F := S.1.2.2) hS.1
      obtain ⟨h1, h2, h3, h4, h5⟩ := hc.1
      have ref : ∀ (M1 : Mem) (Q : Int32 × Mem → Prop), RRel S M1 → (∀ M2, M2.1 169 0 = 0 → (∀ i, i < 22 → M2.1 171 i = S.1.2.1.1 i) → M2.1 169 3 = nI S.1.1 → (∃ L, RcR S.1.1 S.1.2.1.2 L (TT S.1.2.2 S.1.1 S.1.2.1) M2) → FrR SR SS1 M1 M2 → Ok (rBt (nI b) (nI d) (nI (fq (TT S.1.2.2 S.1.1 S.1.2.1).2.2.2.1 (TT S.1.2.2 S.1.1 S.1.2.1).2.1 (nI b)) - 1) M2) Q) → Ok (fX10_boat (nI b) (nI d) M1) Q := by
        intro M1 Q r1 k
        obtain ⟨hc0, hf0⟩ := r_thrown0 r1.1
        have hb1 := r_isBoat_in hc0.2.1 hn hb
        have hi : fX10_in (nI d).toInt64 0 5 (sI M1 169 0 0) = some (1, sI M1 169 0 0) := by rw [r_inI (lo := 0) (hi := 5) (by decide) (by decide), nI_toInt (by omega), if_pos (by omega)]
        have e19 := r1.1.2.2.1 19 (by omega)
        rw [e_X10_boat]
        rw [lt_v, hb1, bd_v, ic_neg (show ¬ ((1 : Int32), sI M1 169 0 0).1 = 0 from one_ne), hi, bd_v, ic_neg (show ¬ ((1 : Int32), sI M1 169 0 0).1 = 0 from one_ne), ic_pos (show inb 19 22 = true by decide)]
        have e19' : ((1 : Int32), sI M1 169 0 0).2.1 171 (ix 19) = S.1.2.1.1 19 := e19
        rw [e19']
        refine ok_call (r_raceT hc0) (fun M2 g => ?_)
        obtain ⟨⟨L, hL⟩, hf⟩ := g
        rw [r_touchOf hm hL, bd_v]
        exact k M2 (by rw [hf.2.1 0 (by unfold ST; omega)]; simp (disch := omega) only [↓reduceIte, ic_t, ic_f, not_true_eq_false, not_false_eq_true, ↓lt_v, rdR, rdE, rdS, leT, leTc, leTd, leF, leFc, leFd, ltT, ltTc, ltTd, ltF, ltFc, ltFd, eqT, eqTc, eqTd, eqF, eqFc, eqFd, m1T, m1F, m1T', m1F', inb_nI, ix_nI, inb_c, ix_c, nI_1, nI_pred, nI_m1, add_nIc, add_cnI, bd_v, reduceCtorEq, eqFcc, m1e0, m1e1, m1l0, m1g0, m2l0, m2g0, Int32.reduceLT, Int32.reduceLE, Int32.reduceAdd, Int32.reduceSub, Int32.reduceMul, eq_self, Bool.false_eq_true]) (fun i hi => by rw [hf.1 171 (by omega) (by unfold PRr; omega)]; exact hc0.2.2.1 i hi) (by rw [hf.2.1 3 (by unfold ST; omega)]; exact hc0.2.1) ⟨L, hL⟩ (frR_trans hf0 (frR_SRu hf))
      have cls : ∀ (Q : Option Int32 × Mem → Prop), Ok (if nI d = 0 then (if inb (nI b) 6 then some (some (M.1 7 (ix (nI b))), M) else none) else if nI d = 1 then (if inb (nI b) 6 then some (some (M.1 8 (ix (nI b))), M) else none) else if nI d = 2 then (if inb (nI b) 6 then some (some (M.1 9 (ix (nI b))), M) else none) else if nI d = 3 then (if inb (nI b) 6 then (fX4_boatOn 6 ((M.1 9 (ix (nI b))) - 1) M).bind fun q2 => some (some q2.1, q2.2) else none) else if nI d = 4 then (fX3_run 6 (M.2.2 1 17) M).bind fun q3 => (fX3_touchedBy (nI b) q3).bind fun q4 => some (some q4.1, q4.2) else if nI d = 5 then (fX3_run 6 (M.2.2 1 17) M).bind fun q3 => (fX3_toucherOf (nI b) q3).bind fun q4 => some (some q4.1, q4.2) else some (none, M)) Q → Ok (gX9_boat (nI b) (nI d) M) Q := by
        intro Q k
        unfold gX9_boat
        rw [hh, bd_v, if_neg (show ¬ ((1 : Int32), M).1 = 0 from one_ne)]
        exact k
      have ib : inb (nI b) 6 = true := inb_nI (by omega) (by omega)
      have xb : ix (nI b) = b := ix_nI (by omega)
      have m7 := h2.2.1 b hb
      have m8 := h2.2.2.1 b hb
      have m9 := h2.2.2.2.1 b hb
      rcases (show d = 0 ∨ d = 1 ∨ d = 2 ∨ d = 3 ∨ d = 4 ∨ d = 5 by omega) with e | e | e | e | e | e <;> subst e
      · refine stT_gen (x := some (S.1.2.1.1 b)) hS hc hr (cls _ ?_) (fun M1 r1 => ref M1 _ r1 (fun M2 k0 k1 k2 k3 k4 => ?_))
        · rw [if_pos (show nI 0 = 0 from rfl), if_pos ib, xb]
          exact ok_some ⟨by rw [← m7], fr_rfl⟩
        · unfold rBt
          have e1 := k1 b (by omega)
          simp (disch := omega) only [↓reduceIte, ic_t, ic_f, not_true_eq_false, not_false_eq_true, ↓lt_v, rdR, rdE, rdS, leT, leTc, leTd, leF, leFc, leFd, ltT, ltTc, ltTd, ltF, ltFc, ltFd, eqT, eqTc, eqTd, eqF, eqFc, eqFd, m1T, m1F, m1T', m1F', inb_nI, ix_nI, inb_c, ix_c, nI_1, nI_pred, nI_m1, add_nIc, add_cnI, bd_v, reduceCtorEq, eqFcc, m1e0, m1e1, m1l0, m1g0, m2l0, m2g0, Int32.reduceLT, Int32.reduceLE, Int32.reduceAdd, Int32.reduceSub, Int32.reduceMul, eq_self, Bool.false_eq_true, e1]
          exact ok_some ⟨k0, fun v e => by cases e; rfl, k4⟩
      · refine stT_gen (x := some (S.1.2.1.1 (6 + b))) hS hc hr (cls _ ?_) (fun M1 r1 => ref M1 _ r1 (fun M2 k0 k1 k2 k3 k4 => ?_))
        · rw [if_neg (by decide), if_pos (show nI 1 = 1 from rfl), if_pos ib, xb]
          exact ok_some ⟨by rw [← m8], fr_rfl⟩
        · unfold rBt
          have e1 := k1 (6 + b) (by omega)
          simp (disch := omega) only [↓reduceIte, ic_t, ic_f, not_true_eq_false, not_false_eq_true, ↓lt_v, rdR, rdE, rdS, leT, leTc, leTd, leF, leFc, leFd, ltT, ltTc, ltTd, ltF, ltFc, ltFd, eqT, eqTc, eqTd, eqF, eqFc, eqFd, m1T, m1F, m1T', m1F', inb_nI, ix_nI, inb_c, ix_c, nI_1, nI_pred, nI_m1, add_nIc, add_cnI, bd_v, reduceCtorEq, eqFcc, m1e0, m1e1, m1l0, m1g0, m2l0, m2g0, Int32.reduceLT, Int32.reduceLE, Int32.reduceAdd, Int32.reduceSub, Int32.reduceMul, eq_self, Bool.false_eq_true, e1]
          exact ok_some ⟨k0, fun v e => by cases e; rfl, k4⟩
      · refine stT_gen (x := some (S.1.2.1.1 (12 + b))) hS hc hr (cls _ ?_) (fun M1 r1 => ref M1 _ r1 (fun M2 k0 k1 k2 k3 k4 => ?_))
        · rw [if_neg (by decide), if_neg (by decide), if_pos (show nI 2 = 2 from rfl), if_pos ib, xb]
          exact ok_some ⟨by rw [← m9], fr_rfl⟩
        · unfold rBt
          have e1 := k1 (12 + b) (by omega)
          simp (disch := omega) only [↓reduceIte, ic_t, ic_f, not_true_eq_false, not_false_eq_true, ↓lt_v, rdR, rdE, rdS, leT, leTc, leTd, leF, leFc, leFd, ltT, ltTc, ltTd, ltF, ltFc, ltFd, eqT, eqTc, eqTd, eqF, eqFc, eqFd, m1T, m1F, m1T', m1F', inb_nI, ix_nI, inb_c, ix_c, nI_1, nI_pred, nI_m1, add_nIc, add_cnI, bd_v, reduceCtorEq, eqFcc, m1e0, m1e1, m1l0, m1g0, m2l0, m2g0, Int32.reduceLT, Int32.reduceLE, Int32.reduceAdd, Int32.reduceSub, Int32.reduceMul, eq_self, Bool.false_eq_true, e1]
          exact ok_some ⟨k0, fun v e => by cases e; rfl, k4⟩
      · have e12 := hpl.2.1
        by_cases c0 : plv S.1.2.1 b = 0
        · refine stT_gen (x := some (-1)) hS hc hr (cls _ ?_) (fun M1 r1 => ref M1 _ r1 (fun M2 k0 k1 k2 k3 k4 => ?_))
          · rw [if_neg (by decide), if_neg (by decide), if_neg (by decide), if_pos (show nI 3 = 3 from rfl), if_pos ib, xb, m9, e12, c0, c_boatOff (r := 6) h2 (x := nI 0 - 1) (Or.inl (by decide)), bd_v]
            exact ok_some ⟨rfl, fr_rfl⟩
          · unfold rBt
            have e1 := k1 (12 + b) (by omega)
            rw [e12, c0] at e1
            have hbo := r_boatOff (x := nI 0 - 1) hS.1 ln171 k2 k1 (Or.inl (by decide))
            simp (disch := omega) only [↓reduceIte, ic_t, ic_f, not_true_eq_false, not_false_eq_true, ↓lt_v, rdR, rdE, rdS, leT, leTc, leTd, leF, leFc, leFd, ltT, ltTc, ltTd, ltF, ltFc, ltFd, eqT, eqTc, eqTd, eqF, eqFc, eqFd, m1T, m1F, m1T', m1F', inb_nI, ix_nI, inb_c, ix_c, nI_1, nI_pred, nI_m1, add_nIc, add_cnI, bd_v, reduceCtorEq, eqFcc, m1e0, m1e1, m1l0, m1g0, m2l0, m2g0, Int32.reduceLT, Int32.reduceLE, Int32.reduceAdd, Int32.reduceSub, Int32.reduceMul, eq_self, Bool.false_eq_true, e1, hbo]
            exact ok_some ⟨k0, fun v e => by cases e; rfl, k4⟩
        · obtain ⟨p, hp⟩ : ∃ p, plv S.1.2.1 b = p + 1 := ⟨plv S.1.2.1 b - 1, by omega⟩
          have hp1 := hpl.1
          refine stT_gen (x := some (nI (S.1.2.1.2 p))) hS hc hr (cls _ ?_) (fun M1 r1 => ref M1 _ r1 (fun M2 k0 k1 k2 k3 k4 => ?_))
          · rw [if_neg (by decide), if_neg (by decide), if_neg (by decide), if_pos (show nI 3 = 3 from rfl), if_pos ib, xb, m9, e12, hp, nI_pred, c_boatOn hn h2 (by omega), bd_v]
            exact ok_some ⟨rfl, fr_rfl⟩
          · unfold rBt
            have e1 := k1 (12 + b) (by omega)
            rw [e12, hp] at e1
            have hbo := r_boatOn (k := p) hS.1 ln171 k2 k1 (by omega)
            simp (disch := omega) only [↓reduceIte, ic_t, ic_f, not_true_eq_false, not_false_eq_true, ↓lt_v, rdR, rdE, rdS, leT, leTc, leTd, leF, leFc, leFd, ltT, ltTc, ltTd, ltF, ltFc, ltFd, eqT, eqTc, eqTd, eqF, eqFc, eqFd, m1T, m1F, m1T', m1F', inb_nI, ix_nI, inb_c, ix_c, nI_1, nI_pred, nI_m1, add_nIc, add_cnI, bd_v, reduceCtorEq, eqFcc, m1e0, m1e1, m1l0, m1g0, m2l0, m2g0, Int32.reduceLT, Int32.reduceLE, Int32.reduceAdd, Int32.reduceSub, Int32.reduceMul, eq_self, Bool.false_eq_true, e1, hbo]
            exact ok_some ⟨k0, fun v e => by cases e; rfl, k4⟩
      · refine stT_gen (x := some (tq (TT S.1.2.2 S.1.1 S.1.2.1).2.2.2.1 (TT S.1.2.2 S.1.1 S.1.2.1).2.2.2.2 (TT S.1.2.2 S.1.1 S.1.2.1).2.1 (nI b))) hS hc hr (cls _ ?_) (fun M1 r1 => ref M1 _ r1 (fun M2 k0 k1 k2 k3 k4 => ?_))
        · rw [if_neg (by decide), if_neg (by decide), if_neg (by decide), if_neg (by decide), if_pos (show nI 4 = 4 from rfl)]
          refine ok_call (c_runT h1 (by omega) h5 h2 h3) (fun M1 g => ?_)
          obtain ⟨⟨L, hL⟩, hf⟩ := g
          rw [(c_tq (x := nI b) hm hL).1, bd_v]
          exact ok_some ⟨rfl, fr_SCu hf h5⟩
        · unfold rBt
          obtain ⟨L, hL⟩ := k3
          have hfl := fq_le (TT S.1.2.2 S.1.1 S.1.2.1).2.2.2.1 (TT S.1.2.2 S.1.1 S.1.2.1).2.1 (nI b)
          unfold tq
          by_cases c0 : fq (TT S.1.2.2 S.1.1 S.1.2.1).2.2.2.1 (TT S.1.2.2 S.1.1 S.1.2.1).2.1 (nI b) = 0
          · rw [c0]
            simp (disch := omega) only [↓reduceIte, ic_t, ic_f, not_true_eq_false, not_false_eq_true, ↓lt_v, rdR, rdE, rdS, leT, leTc, leTd, leF, leFc, leFd, ltT, ltTc, ltTd, ltF, ltFc, ltFd, eqT, eqTc, eqTd, eqF, eqFc, eqFd, m1T, m1F, m1T', m1F', inb_nI, ix_nI, inb_c, ix_c, nI_1, nI_pred, nI_m1, add_nIc, add_cnI, bd_v, reduceCtorEq, eqFcc, m1e0, m1e1, m1l0, m1g0, m2l0, m2g0, Int32.reduceLT, Int32.reduceLE, Int32.reduceAdd, Int32.reduceSub, Int32.reduceMul, eq_self, Bool.false_eq_true]
            exact ok_some ⟨k0, fun v e => by cases e; rfl, k4⟩
          · obtain ⟨p, hp⟩ : ∃ p, fq (TT S.1.2.2 S.1.1 S.1.2.1).2.2.2.1 (TT S.1.2.2 S.1.1 S.1.2.1).2.1 (nI b) = p + 1 := ⟨_, (Nat.succ_pred c0).symm⟩
            rw [hp] at hfl ⊢
            have e4 := (hL.2.2.2.2.2 p (by omega)).2.2
            rw [if_neg (Nat.succ_ne_zero p), Nat.add_sub_cancel, nI_pred]
            simp (disch := omega) only [↓reduceIte, ic_t, ic_f, not_true_eq_false, not_false_eq_true, ↓lt_v, rdR, rdE, rdS, leT, leTc, leTd, leF, leFc, leFd, ltT, ltTc, ltTd, ltF, ltFc, ltFd, eqT, eqTc, eqTd, eqF, eqFc, eqFd, m1T, m1F, m1T', m1F', inb_nI, ix_nI, inb_c, ix_c, nI_1, nI_pred, nI_m1, add_nIc, add_cnI, bd_v, reduceCtorEq, eqFcc, m1e0, m1e1, m1l0, m1g0, m2l0, m2g0, Int32.reduceLT, Int32.reduceLE, Int32.reduceAdd, Int32.reduceSub, Int32.reduceMul, eq_self, Bool.false_eq_true, e4]
            exact ok_some ⟨k0, fun v e => by cases e; rfl, k4⟩
      · refine stT_gen (x := some (tq (TT S.1.2.2 S.1.1 S.1.2.1).2.2.2.2 (TT S.1.2.2 S.1.1 S.1.2.1).2.2.2.1 (TT S.1.2.2 S.1.1 S.1.2.1).2.1 (nI b))) hS hc hr (cls _ ?_) (fun M1 r1 => ref M1 _ r1 (fun M2 k0 k1 k2 k3 k4 => ?_))
        · rw [if_neg (by decide), if_neg (by decide), if_neg (by decide), if_neg (by decide), if_neg (by decide), if_pos (show nI 5 = 5 from rfl)]
          refine ok_call (c_runT h1 (by omega) h5 h2 h3) (fun M1 g => ?_)
          obtain ⟨⟨L, hL⟩, hf⟩ := g
          rw [(c_tq (x := nI b) hm hL).2.1, bd_v]
          exact ok_some ⟨rfl, fr_SCu hf h5⟩
        · unfold rBt
          obtain ⟨L, hL⟩ := k3
          have ht := r_touchedBy (x := nI b) hm hL
          simp (disch := omega) only [↓reduceIte, ic_t, ic_f, not_true_eq_false, not_false_eq_true, ↓lt_v, rdR, rdE, rdS, leT, leTc, leTd, leF, leFc, leFd, ltT, ltTc, ltTd, ltF, ltFc, ltFd, eqT, eqTc, eqTd, eqF, eqFc, eqFd, m1T, m1F, m1T', m1F', inb_nI, ix_nI, inb_c, ix_c, nI_1, nI_pred, nI_m1, add_nIc, add_cnI, bd_v, reduceCtorEq, eqFcc, m1e0, m1e1, m1l0, m1g0, m2l0, m2g0, Int32.reduceLT, Int32.reduceLE, Int32.reduceAdd, Int32.reduceSub, Int32.reduceMul, eq_self, Bool.false_eq_true, ht]
          exact ok_some ⟨k0, fun v e => by cases e; rfl, k4⟩
    · refine stT_gen (x := none) hS hc hr ?_ (fun M1 h1 => ?_)
      · show Ok (gX9_boat (nI b) y M) _
        unfold gX9_boat
        have ne : ∀ k, k ≤ 5 → ¬ y = nI k := fun k hk e => by
          apply hy
          rw [e, nI_toInt (by omega)]
          omega
        rw [hh, bd_v, if_neg (show ¬ ((1 : Int32), M).1 = 0 from one_ne), if_neg (show ¬ y = (0 : Int32) from ne 0 (by omega)), if_neg (show ¬ y = (1 : Int32) from ne 1 (by omega)), if_neg (show ¬ y = (2 : Int32) from ne 2 (by omega)), if_neg (show ¬ y = (3 : Int32) from ne 3 (by omega)), if_neg (show ¬ y = (4 : Int32) from ne 4 (by omega)), if_neg (show ¬ y = (5 : Int32) from ne 5 (by omega))]
        exact ok_some ⟨rfl, fr_rfl⟩
      · obtain ⟨hc0, hf0⟩ := r_thrown0 h1.1
        have hb1 := r_isBoat_in hc0.2.1 hn hb
        have hin : fX10_in y.toInt64 0 5 (sI M1 169 0 0) = some (0, sI M1 169 0 0) := in_no (lo := 0) (hi := 5) (by decide) (by decide) hy
        show Ok (fX10_boat (nI b) y M1) _
        rw [e_X10_boat]
        simp (disch := omega) only [↓reduceIte, ic_t, ic_f, not_true_eq_false, not_false_eq_true, ↓lt_v, rdR, rdE, rdS, leT, leTc, leTd, leF, leFc, leFd, ltT, ltTc, ltTd, ltF, ltFc, ltFd, eqT, eqTc, eqTd, eqF, eqFc, eqFd, m1T, m1F, m1T', m1F', inb_nI, ix_nI, inb_c, ix_c, nI_1, nI_pred, nI_m1, add_nIc, add_cnI, bd_v, reduceCtorEq, eqFcc, m1e0, m1e1, m1l0, m1g0, m2l0, m2g0, Int32.reduceLT, Int32.reduceLE, Int32.reduceAdd, Int32.reduceSub, Int32.reduceMul, eq_self, Bool.false_eq_true, hb1, hin, e_X10_boat_25, e_X10_refuse]
        exact ok_some ⟨by simp (disch := omega) only [↓reduceIte, ic_t, ic_f, not_true_eq_false, not_false_eq_true, ↓lt_v, rdR, rdE, rdS, leT, leTc, leTd, leF, leFc, leFd, ltT, ltTc, ltTd, ltF, ltFc, ltFd, eqT, eqTc, eqTd, eqF, eqFc, eqFd, m1T, m1F, m1T', m1F', inb_nI, ix_nI, inb_c, ix_c, nI_1, nI_pred, nI_m1, add_nIc, add_cnI, bd_v, reduceCtorEq, eqFcc, m1e0, m1e1, m1l0, m1g0, m2l0, m2g0, Int32.reduceLT, Int32.reduceLE, Int32.reduceAdd, Int32.reduceSub, Int32.reduceMul, eq_self, Bool.false_eq_true]; rfl, (fun v e => by cases e), frR_trans hf0 (frR_sI (by omega) (by unfold SS1 SS; omega))⟩
  · refine stT_gen (x := none) hS hc hr ?_ (fun M1 h1 => ?_)
    · show Ok (gX9_boat x y M) _
      unfold gX9_boat
      rw [has_out hc.1.2.1.1 hx, bd_v, if_pos (show ((0 : Int32), M).1 = 0 from rfl)]
      exact ok_some ⟨rfl, fr_rfl⟩
    · obtain ⟨hc0, hf0⟩ := r_thrown0 h1.1
      show Ok (fX10_boat x y M1) _
      rw [e_X10_boat]
      simp (disch := omega) only [↓reduceIte, ic_t, ic_f, not_true_eq_false, not_false_eq_true, ↓lt_v, rdR, rdE, rdS, leT, leTc, leTd, leF, leFc, leFd, ltT, ltTc, ltTd, ltF, ltFc, ltFd, eqT, eqTc, eqTd, eqF, eqFc, eqFd, m1T, m1F, m1T', m1F', inb_nI, ix_nI, inb_c, ix_c, nI_1, nI_pred, nI_m1, add_nIc, add_cnI, bd_v, reduceCtorEq, eqFcc, m1e0, m1e1, m1l0, m1g0, m2l0, m2g0, Int32.reduceLT, Int32.reduceLE, Int32.reduceAdd, Int32.reduceSub, Int32.reduceMul, eq_self, Bool.false_eq_true, bad_isB h1 hx, e_X10_boat_25, e_X10_refuse]
      exact ok_some ⟨by simp (disch := omega) only [↓reduceIte, ic_t, ic_f, not_true_eq_false, not_false_eq_true, ↓lt_v, rdR, rdE, rdS, leT, leTc, leTd, leF, leFc, leFd, ltT, ltTc, ltTd, ltF, ltFc, ltFd, eqT, eqTc, eqTd, eqF, eqFc, eqFd, m1T, m1F, m1T', m1F', inb_nI, ix_nI, inb_c, ix_c, nI_1, nI_pred, nI_m1, add_nIc, add_cnI, bd_v, reduceCtorEq, eqFcc, m1e0, m1e1, m1l0, m1g0, m2l0, m2g0, Int32.reduceLT, Int32.reduceLE, Int32.reduceAdd, Int32.reduceSub, Int32.reduceMul, eq_self, Bool.false_eq_true]; rfl, (fun v e => by cases e), frR_trans hf0 (frR_sI (by omega) (by unfold SS1 SS; omega))⟩
