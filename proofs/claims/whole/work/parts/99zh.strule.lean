/-! PURE: rule -/
theorem crel_sp {S : SP} {a0 : Nat} {M M' : Mem} (h : CRel S M) (ha : a0 = 296 - M.2.2 1 17) (hf : Fr (fun a => a = a0 ∨ a = a0 + 1) M M') : CRel S M' := by
  have hR := h.1.2.2.2.2
  have hc0 := h
  obtain ⟨h1, h2, h3, h4, h5, h6, h7, h8⟩ := h
  have e : ∀ a, ¬ (a = a0 ∨ a = a0 + 1) → M'.1 a = M.1 a := hf.1
  have e2 : M'.2 = M.2 := hf.2
  exact crel_all hc0 ⟨rfl, rfl⟩ h1.1 ⟨by rw [e2], by rw [e2]⟩ ⟨e _ (by omega), e _ (by omega)⟩ (rivC_fr h1.2.1 (fun a _ _ => e a (by omega))) (txC_fr h3 (e _ (by omega)) (e _ (by omega))) (rwC_fr h4 (e _ (by omega)) (by rw [e2])) (psC_fr h5 (fun a _ _ => e a (by omega)) (by rw [e2])) (kpC_fr h6 (fun a ha => e a (by omega)) (by rw [e2])) (hC_fr h7 (fun a ha => e a (by omega))) ⟨e _ (by omega), e _ (by omega)⟩
/-- the reference with another rule -/
theorem rrel_ru {S S' : SP} {M M' : Mem} (h : RRel S M) (e : S'.1.1 = S.1.1 ∧ S'.1.2.1 = S.1.2.1 ∧ S'.2 = S.2) (hu : RuR S'.1.2.2 M') (e1 : ∀ a, a ≠ 169 → a ≠ 175 → ¬ SR a → M'.1 a = M.1 a) (es : ∀ i, i ≠ 16 → ¬ SS1 i → M'.1 169 i = M.1 169 i) (e2 : M'.2 = M.2) : RRel S' M' := by
  obtain ⟨h1, h2, h3, h4, h5, h6⟩ := h
  obtain ⟨x1, x2, x3⟩ := e
  refine ⟨⟨by rw [x1, x2]; exact h1.1, ?_, ?_, hu⟩, ?_, ?_, ?_, ?_, ?_⟩
  · rw [es 3 (by omega) (by unfold SS1 SS; omega), x1]; exact h1.2.1
  · rw [e1 171 (by omega) (by omega) (by unfold SR; omega), x2]; exact h1.2.2.1
  · rw [x3]; exact txR_fr h2 (es 8 (by omega) (by unfold SS1 SS; omega)) (e1 173 (by omega) (by omega) (by unfold SR; omega))
  · rw [x3]; exact rwR_fr h3 (es 1 (by omega) (by unfold SS1; omega)) (by rw [e2])
  · rw [x3, x1]; exact psR_fr h4 (es 28 (by omega) (by unfold SS1 SS; omega)) (e1 185 (by omega) (by omega) (by unfold SR; omega))
  · rw [x3, x1]; exact kpR_fr h5 (es 4 (by omega) (by unfold SS1 SS; omega)) (fun a ha => e1 a (by omega) (by omega) (by unfold SR; omega))
  · rw [x3]; exact hR_fr h6 (es 45 (by omega) (by unfold SS1 SS; omega)) (fun a ha => e1 a (by omega) (by omega) (by unfold SR; omega))
theorem rrel_em {S : SP} {M M' : Mem} (h : RRel S M) (hf : FrR (fun a => a = 176) S5 M M') (h8 : M'.1 169 8 = nI 0) : RRel (emS S) M' := by
  have h0 := h
  obtain ⟨h1, h2, h3, h4, h5, h6⟩ := h
  have e1 : ∀ a, a ≠ 169 → a ≠ 176 → M'.1 a = M.1 a := hf.1
  have es : ∀ i, ¬ S5 i → M'.1 169 i = M.1 169 i := hf.2.1
  have e2 : M'.2 = M.2 := hf.2.2
  exact rrel_all h0 ⟨rfl, rfl⟩ h1.1 (e1 175 (by omega) (by omega)) (fun i hi => es i (by unfold S5; omega)) (fun i hi => by rw [e1 171 (by omega) (by omega)]; exact h1.2.2.1 i hi) ⟨Nat.zero_le _, h8, fun i hi => absurd hi (Nat.not_lt_zero _)⟩ (rwR_fr h3 (es 1 (by unfold S5; omega)) (by rw [e2])) (psR_fr h4 (es 28 (by unfold S5; omega)) (e1 185 (by omega) (by omega))) (kpR_fr h5 (es 4 (by unfold S5; omega)) (fun a ha => e1 a (by omega) (by omega))) (hR_fr h6 (es 45 (by unfold S5; omega)) (fun a ha => e1 a (by omega) (by omega)))
theorem r_laysCode {s : Mem} {a1 n : Nat} (hl : ln a1 = 80) (ha : a1 ≠ 169) (ha2 : a1 ≠ 175) (hn : n ≤ 80) : Ok (fX10_laysCode a1 (nI n) s) (fun s' => s'.1 169 16 = nI n ∧ (∀ k, k < n → s'.1 175 k = s.1 a1 k) ∧ FrR (fun a => a = 175) (fun i => i = 16) s s') := by
  rw [e_X10_laysCode]
  simp (disch := omega) only [↓reduceIte, ic_t, ic_f, not_true_eq_false, not_false_eq_true, ↓lt_v, rdR, rdE, rdS, leT, leTc, leTd, leF, leFc, leFd, ltT, ltTc, ltTd, ltF, ltFc, ltFd, eqT, eqTc, eqTd, eqF, eqFc, eqFd, m1T, m1F, m1T', m1F', inb_nI, ix_nI, inb_c, ix_c, nI_1, nI_pred, nI_m1, add_nIc, add_cnI, bd_v, reduceCtorEq, eqFcc, m1e0, m1e1, m1l0, m1g0, m2l0, m2g0, Int32.reduceLT, Int32.reduceLE, Int32.reduceAdd, Int32.reduceSub, Int32.reduceMul, eq_self, Bool.false_eq_true]
  have hFU : 2000 < FU := FU_big
  generalize FU = fu0 at hFU ⊢
  refine ok_loop n (fun fu k x => fX10_laysCode_7 fu a1 (nI n) (nI k) x) (fun k x => x.1 169 16 = nI n ∧ (∀ i, i < k → x.1 175 i = s.1 a1 i) ∧ FrR (fun a => a = 175) (fun i => i = 16) s x) ?_ ?_ fu0 0 (sI s 169 16 (nI n)) (by omega) (by omega) ⟨by simp (disch := omega) only [↓reduceIte, ic_t, ic_f, not_true_eq_false, not_false_eq_true, ↓lt_v, rdR, rdE, rdS, leT, leTc, leTd, leF, leFc, leFd, ltT, ltTc, ltTd, ltF, ltFc, ltFd, eqT, eqTc, eqTd, eqF, eqFc, eqFd, m1T, m1F, m1T', m1F', inb_nI, ix_nI, inb_c, ix_c, nI_1, nI_pred, nI_m1, add_nIc, add_cnI, bd_v, reduceCtorEq, eqFcc, m1e0, m1e1, m1l0, m1g0, m2l0, m2g0, Int32.reduceLT, Int32.reduceLE, Int32.reduceAdd, Int32.reduceSub, Int32.reduceMul, eq_self, Bool.false_eq_true], fun i hi => absurd hi (Nat.not_lt_zero _), frR_sI (by omega) (by omega)⟩
  · intro fu k x hk hx ih
    obtain ⟨w1, w2, w3⟩ := hx
    have e : x.1 a1 k = s.1 a1 k := by rw [w3.1 a1 ha (by omega)]
    rw [e_X10_laysCode_7]
    simp (disch := omega) only [↓reduceIte, ic_t, ic_f, not_true_eq_false, not_false_eq_true, ↓lt_v, rdR, rdE, rdS, leT, leTc, leTd, leF, leFc, leFd, ltT, ltTc, ltTd, ltF, ltFc, ltFd, eqT, eqTc, eqTd, eqF, eqFc, eqFd, m1T, m1F, m1T', m1F', inb_nI, ix_nI, inb_c, ix_c, nI_1, nI_pred, nI_m1, add_nIc, add_cnI, bd_v, reduceCtorEq, eqFcc, m1e0, m1e1, m1l0, m1g0, m2l0, m2g0, Int32.reduceLT, Int32.reduceLE, Int32.reduceAdd, Int32.reduceSub, Int32.reduceMul, eq_self, Bool.false_eq_true, hl, e]
    refine ih _ ⟨by simp (disch := omega) only [↓reduceIte, ic_t, ic_f, not_true_eq_false, not_false_eq_true, ↓lt_v, rdR, rdE, rdS, leT, leTc, leTd, leF, leFc, leFd, ltT, ltTc, ltTd, ltF, ltFc, ltFd, eqT, eqTc, eqTd, eqF, eqFc, eqFd, m1T, m1F, m1T', m1F', inb_nI, ix_nI, inb_c, ix_c, nI_1, nI_pred, nI_m1, add_nIc, add_cnI, bd_v, reduceCtorEq, eqFcc, m1e0, m1e1, m1l0, m1g0, m2l0, m2g0, Int32.reduceLT, Int32.reduceLE, Int32.reduceAdd, Int32.reduceSub, Int32.reduceMul, eq_self, Bool.false_eq_true]; exact w1, fun i hi => ?_, frR_trans w3 (frR_sI (by omega) (by omega))⟩
    by_cases q : i = k
    · subst q; simp (disch := omega) only [↓reduceIte, ic_t, ic_f, not_true_eq_false, not_false_eq_true, ↓lt_v, rdR, rdE, rdS, leT, leTc, leTd, leF, leFc, leFd, ltT, ltTc, ltTd, ltF, ltFc, ltFd, eqT, eqTc, eqTd, eqF, eqFc, eqFd, m1T, m1F, m1T', m1F', inb_nI, ix_nI, inb_c, ix_c, nI_1, nI_pred, nI_m1, add_nIc, add_cnI, bd_v, reduceCtorEq, eqFcc, m1e0, m1e1, m1l0, m1g0, m2l0, m2g0, Int32.reduceLT, Int32.reduceLE, Int32.reduceAdd, Int32.reduceSub, Int32.reduceMul, eq_self, Bool.false_eq_true]
    · simp (disch := omega) only [↓reduceIte, ic_t, ic_f, not_true_eq_false, not_false_eq_true, ↓lt_v, rdR, rdE, rdS, leT, leTc, leTd, leF, leFc, leFd, ltT, ltTc, ltTd, ltF, ltFc, ltFd, eqT, eqTc, eqTd, eqF, eqFc, eqFd, m1T, m1F, m1T', m1F', inb_nI, ix_nI, inb_c, ix_c, nI_1, nI_pred, nI_m1, add_nIc, add_cnI, bd_v, reduceCtorEq, eqFcc, m1e0, m1e1, m1l0, m1g0, m2l0, m2g0, Int32.reduceLT, Int32.reduceLE, Int32.reduceAdd, Int32.reduceSub, Int32.reduceMul, eq_self, Bool.false_eq_true]; exact w2 i (by omega)
  · intro fu x hx
    rw [e_X10_laysCode_7]
    simp (disch := omega) only [↓reduceIte, ic_t, ic_f, not_true_eq_false, not_false_eq_true, ↓lt_v, rdR, rdE, rdS, leT, leTc, leTd, leF, leFc, leFd, ltT, ltTc, ltTd, ltF, ltFc, ltFd, eqT, eqTc, eqTd, eqF, eqFc, eqFd, m1T, m1F, m1T', m1F', inb_nI, ix_nI, inb_c, ix_c, nI_1, nI_pred, nI_m1, add_nIc, add_cnI, bd_v, reduceCtorEq, eqFcc, m1e0, m1e1, m1l0, m1g0, m2l0, m2g0, Int32.reduceLT, Int32.reduceLE, Int32.reduceAdd, Int32.reduceSub, Int32.reduceMul, eq_self, Bool.false_eq_true]
    exact ok_some hx
theorem ln176 : ln 176 = 80 := by decide
theorem ln201 : ln 201 = 80 := by decide
def ruS (S : SP) (F : (Nat → Int32) → Int32) : SP := ((S.1.1, S.1.2.1, F), S.2)
theorem tx_f {L : Nat} {f : Nat → Nat} {M : Mem} (h : TxC L f M) : ∀ i, i < L → f i < 256 := fun i hi => (h.2.2 i hi).1
theorem neg_ne : ∀ e, e < 41 → ¬ ((-1 - nI e : Int32) = 0) ∧ ¬ ((0 : Int32) ≤ -1 - nI e) ∧ ((-1 - nI e : Int32) + 1) - 10000 = -10000 - nI e := by decide +kernel
theorem st_rule {M : Mem} (h : Rel M) : StI (fun M => fX9_rule M) (fun M => fX10_rule M) M := by
  obtain ⟨S, hS, hc, hr⟩ := h
  have hRR := hc.1.2.2.2.2
  have ha0 := hc.2.1
  generalize ea0 : M.2.2 1 18 = a0 at ha0
  have hR : a0 = 146 ∨ a0 = 150 := by omega
  obtain ⟨ok, e, F, he, hC, hRf⟩ := ru_out (L := S.2.1.1) (f := S.2.1.2) hR hc.2.2.1.1 (tx_f hc.2.2.1)
  have cls : ∀ (Q : Int32 × Mem → Prop), (∀ q : Int32 × Mem, q.1 = (if ok = true then -1 else nI e) → CRel (emS S) (sI q.2 2 1 0) → CFr M (sI q.2 2 1 0) → (ok = true → RuC a0 F (sI q.2 2 1 0)) → q.2.2 = M.2 → Ok (ic (q.1 < 0) ((lt (sR (sI q.2 2 1 0) 1 17 ((sI q.2 2 1 0).2.2 1 18)) fun M9 => lt (sR M9 1 18 ((sI q.2 2 1 0).2.2 1 17)) fun M11 => some ((0 : Int32), M11))) ((some ((-1) - q.1, sI q.2 2 1 0)))) Q) → Ok (fX9_rule M) Q := by
    intro Q hk
    rw [e_X9_rule, ea0]
    refine ok_call (hC M hc.2.2.1) (fun q g => ?_)
    obtain ⟨g1, g2, g3⟩ := g
    rw [lt_v]
    have k1 := crel_empty (crel_sp hc ha0 g2)
    exact hk q g1 k1 (fun a ha => ⟨by rw [row_n (by omega), g2.1 a (by omega)], by show q.2.2.1 a = _; rw [g2.2]⟩) (fun hok => ruC_fr (g3 hok) (row_n (by omega)) (row_n (by omega))) g2.2
  have ref : ∀ (M1 : Mem) (Q : Int32 × Mem → Prop), RRel S M1 → (∀ q : Int32 × Mem, q.1 = (if ok = true then 0 else -1 - nI e) → RRel (emS S) q.2 → RFr M1 q.2 → (ok = true → ∃ rl, rl ≤ 80 ∧ q.2.1 169 17 = nI rl ∧ ∀ M' : Mem, M'.1 169 16 = nI rl → (∀ k, k < rl → M'.1 175 k = q.2.1 176 k) → RuR F M') → Ok (ic (q.1 = 0) (((fX10_laysCode 176 (q.2.1 169 17) q.2).bind fun q6 => some (q.1, q6))) ((some (q.1, q.2)))) Q) → Ok (fX10_rule M1) Q := by
    intro M1 Q r1 hk
    rw [e_X10_rule, lt_v]
    have f0 : FrR (fun a => a = 176) (fun i => i = 0) M1 (sI M1 169 0 0) := frR_sI (by omega) (by omega)
    have r2 : RRel S (sI M1 169 0 0) := rrel_frS (P := fun _ => False) (T := fun i => i = 0) r1 (frR_sI (by omega) (by omega)) (fun a ha => ha.elim) (fun i hi => by unfold SS1 SS; omega)
    refine ok_call (hRf _ r2.2.1) (fun q g => ?_)
    obtain ⟨g1, g2, g3, g4⟩ := g
    exact hk q g1 (rrel_em r2 g2 g3) (rfr_tr (rfr_of f0 (fun a ha => by omega)) (rfr_of g2 (fun a ha => by omega))) g4
  cases hok : ok
  · refine st_gen (S' := emS S) (x := -1 - nI e) (spOK_emS hS) hr (cls _ (fun q k1 k2 k3 _ _ => ?_)) (fun M1 r1 => ref M1 _ r1 (fun q k1 k2 k3 _ => ?_))
    · rw [hok, if_neg (by decide)] at k1
      rw [k1, ic_neg (nI_pos (by omega))]
      exact ok_some ⟨rfl, k2, k3⟩
    · rw [hok, if_neg (by decide)] at k1
      rw [k1, ic_neg (neg_ne e (by omega)).1]
      exact ok_some ⟨rfl, k2, k3⟩
  · refine st_gen (S' := ruS (emS S) F) (x := 0) hS hr (cls _ (fun q k1 k2 k3 k4 k5 => ?_)) (fun M1 r1 => ref M1 _ r1 (fun q k1 k2 k3 k4 => ?_))
    · rw [hok, if_pos rfl] at k1
      rw [k1, ic_pos m1lt0, lt_v, lt_v]
      have k6 := k4 hok
      have e17 : (sI q.2 2 1 0).2.2 1 17 = M.2.2 1 17 := by show q.2.2.2 1 17 = _; rw [k5]
      have e18 : (sI q.2 2 1 0).2.2 1 18 = a0 := by show q.2.2.2 1 18 = _; rw [k5]; exact ea0
      rw [e17, e18]
      generalize sI q.2 2 1 0 = M4 at k2 k3 k6 e17 e18
      have n17 : (sR (sR M4 1 17 a0) 1 18 (M.2.2 1 17)).2.2 1 17 = a0 := by rw [rR_s (by omega), rR_e rfl rfl]
      have n18 : (sR (sR M4 1 17 a0) 1 18 (M.2.2 1 17)).2.2 1 18 = M.2.2 1 17 := rR_e rfl rfl
      obtain ⟨h1, h2, h3, h4, h5, h6, h7, h8⟩ := k2
      refine ok_some ⟨rfl, ⟨⟨h1.1, h1.2.1, by rw [n17]; exact k6, rfl, by rw [n17]; exact hR⟩, by rw [n17, n18]; omega, h3, h4, ?_, ?_, h7, h8⟩, k3⟩
      · exact psC_fr h5 (fun a _ _ => rfl) (funext (fun j => by rw [rR_r (by omega), rR_r (by omega)]))
      · exact kpC_fr h6 (fun a _ => rfl) (funext (fun j => by rw [rR_r (by omega), rR_r (by omega)]))
    · rw [hok, if_pos rfl] at k1
      obtain ⟨rl, l1, l2, l3⟩ := k4 hok
      rw [k1, ic_pos rfl, l2]
      refine ok_call (r_laysCode (n := rl) ln176 (by omega) (by omega) l1) (fun s g => ?_)
      obtain ⟨g1, g2, g3⟩ := g
      refine ok_some ⟨rfl, rrel_ru k2 ⟨rfl, rfl, rfl⟩ (l3 s g1 g2) (fun a a1 a2 _ => g3.1 a a1 a2) (fun i i1 _ => g3.2.1 i i1) g3.2.2, rfr_tr k3 (rfr_of g3 (fun a ha => by omega))⟩
