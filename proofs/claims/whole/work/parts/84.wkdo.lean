/-! PURE: an act of a week -/
theorem pr_wrap {n : Nat} {v : VV} {aC aR : Mem → Option (Int32 × Mem)} (h : ActP n v aC aR) : ∃ (ok : Bool) (v' : VV), WfV n v' ∧ (∀ M1, RvC 6 n v M1 → Ok ((aC M1).bind fun q => ic (q.1 < 0) (some ((0 : Int32), q.2)) (some (1, q.2))) (fun q => q.1 = bI ok ∧ RvC 6 n v' q.2 ∧ Fr (fun a => 6 ≤ a ∧ a ≤ 10) M1 q.2)) ∧ (∀ M1, M1.1 169 3 = nI n → (∀ i, i < 22 → M1.1 171 i = v.1 i) → Ok ((aR M1).bind fun q => ic (q.1 < 0) (some ((0 : Int32), q.2)) (some (1, q.2))) (fun q => q.1 = bI ok ∧ (∀ i, i < 22 → q.2.1 171 i = v'.1 i) ∧ FrR (fun a => a = 171) (fun _ => False) M1 q.2)) := by
  obtain ⟨x, v', hw, h1, h2⟩ := h
  by_cases c : x < 0
  · refine ⟨false, v', hw, fun M1 g => ok_call (h1 M1 g) (fun q k => ?_), fun M1 g g' => ok_call (h2 M1 g g') (fun q k => ?_)⟩
    · rw [k.1, ic_pos c]; exact ok_some ⟨rfl, k.2⟩
    · rw [k.1, ic_pos c]; exact ok_some ⟨rfl, k.2⟩
  · refine ⟨true, v', hw, fun M1 g => ok_call (h1 M1 g) (fun q k => ?_), fun M1 g g' => ok_call (h2 M1 g g') (fun q k => ?_)⟩
    · rw [k.1, ic_neg c]; exact ok_some ⟨rfl, k.2⟩
    · rw [k.1, ic_neg c]; exact ok_some ⟨rfl, k.2⟩
theorem r_does63 {M : Mem} {n d : Nat} {v : VV} {F : (Nat → Int32) → Int32} (hw : WfV n v) (h0 : M.1 169 3 = nI n) (hv : ∀ i, i < 22 → M.1 171 i = v.1 i) (hu : RuR F M) (hd : d ≤ 1000) : Ok (fX10_does_63 FU (nI d) 0 M) (fun q => q.1 = 1 ∧ (∀ i, i < 22 → q.2.1 171 i = (days F n d v).1 i) ∧ FrR (PDr 171) SDr M q.2) := by
  have hFU : 2000 < FU := FU_big
  generalize FU = fu0 at hFU ⊢
  refine ok_loop d (fun fu k s => fX10_does_63 fu (nI d) (nI k) s) (fun k s => (∀ i, i < 22 → s.1 171 i = (days F n k v).1 i) ∧ RuR F s ∧ s.1 169 3 = nI n ∧ FrR (PDr 171) SDr M s) ?_ ?_ fu0 0 _ (by omega) (by omega) ⟨hv, hu, h0, frR_rfl⟩
  · intro fu k s hk hs ih
    obtain ⟨b1, b3, b4, b5⟩ := hs
    rw [e_X10_does_63]
    simp (disch := omega) only [↓reduceIte, ic_t, ic_f, not_true_eq_false, not_false_eq_true, ↓lt_v, rdR, rdE, rdS, leT, leTc, leTd, leF, leFc, leFd, ltT, ltTc, ltTd, ltF, ltFc, ltFd, eqT, eqTc, eqTd, eqF, eqFc, eqFd, m1T, m1F, m1T', m1F', inb_nI, ix_nI, inb_c, ix_c, nI_1, nI_pred, nI_m1, add_nIc, add_cnI, bd_v, reduceCtorEq, eqFcc, m1e0, m1e1, m1l0, m1g0, m2l0, m2g0, Int32.reduceLT, Int32.reduceLE, Int32.reduceAdd, Int32.reduceSub, Int32.reduceMul, eq_self, Bool.false_eq_true]
    refine ok_call (r_day (wf_days hw k) ln171 (by omega) b4 b1 b3) (fun M1 g => ?_)
    obtain ⟨g1, g2, g3, g4, g5⟩ := g
    refine ih _ ⟨g1, g4, ?_, frR_trans b5 g5⟩
    rw [g5.2.1 3 (by unfold SDr; omega)]; exact b4
  · intro fu s hs
    rw [e_X10_does_63]
    simp (disch := omega) only [↓reduceIte, ic_t, ic_f, not_true_eq_false, not_false_eq_true, ↓lt_v, rdR, rdE, rdS, leT, leTc, leTd, leF, leFc, leFd, ltT, ltTc, ltTd, ltF, ltFc, ltFd, eqT, eqTc, eqTd, eqF, eqFc, eqFd, m1T, m1F, m1T', m1F', inb_nI, ix_nI, inb_c, ix_c, nI_1, nI_pred, nI_m1, add_nIc, add_cnI, bd_v, reduceCtorEq, eqFcc, m1e0, m1e1, m1l0, m1g0, m2l0, m2g0, Int32.reduceLT, Int32.reduceLE, Int32.reduceAdd, Int32.reduceSub, Int32.reduceMul, eq_self, Bool.false_eq_true]
    exact ok_some ⟨rfl, hs.1, hs.2.2.2⟩
def DoC (L p R n : Nat) (f : Nat → Nat) (F : (Nat → Int32) → Int32) (v : VV) (ok : Bool) (v' : VV) : Prop := ∀ M1 : Mem, RvC 6 n v M1 → TxC L f M1 → M1.2.2 1 17 = R → RuC R F M1 → Ok (fX9_doAct (nI p) M1) (fun q => q.1 = bI ok ∧ RvC 6 n v' q.2 ∧ RuC R F q.2 ∧ Fr (PDy 6 R) M1 q.2)
def DoR (p n : Nat) (f : Nat → Nat) (F : (Nat → Int32) → Int32) (v : VV) (ok : Bool) (v' : VV) : Prop := ∀ (s : Mem) (k : Nat), k < 60 → s.1 169 3 = nI n → (∀ i, i < 22 → s.1 171 i = v.1 i) → RuR F s → s.1 186 k = nI (ki (f p)) → s.1 187 k = nI (f (p + 1) - 48) → (al (f p) = 3 → s.1 188 k = nI (f (p + 2) - 48)) → Ok (fX10_does (nI k) s) (fun q => q.1 = bI ok ∧ (∀ i, i < 22 → q.2.1 171 i = v'.1 i) ∧ FrR (PDr 171) SDr s q.2)
theorem al_0 {c : Nat} (h : al c ≠ 0) : (c = 103 ∨ c = 107 ∨ c = 112) ∨ (c = 110 ∨ c = 114 ∨ c = 115) := by
  unfold al at h
  by_cases c1 : c = 103 ∨ c = 107 ∨ c = 112
  · exact Or.inl c1
  · rw [if_neg c1] at h
    by_cases c2 : c = 110 ∨ c = 114 ∨ c = 115
    · exact Or.inr c2
    · rw [if_neg c2] at h; exact absurd rfl h
theorem pr_do {L p R n : Nat} {f : Nat → Nat} {F : (Nat → Int32) → Int32} {v : VV} (hw : WfV n v) (hR : R = 146 ∨ R = 150) (hp : wE (min L 60) f p = none) : ∃ (ok : Bool) (v' : VV), WfV n v' ∧ DoC L p R n f F v ok v' ∧ DoR p n f F v ok v' := by
  have hn : n ≤ 6 := hw.1
  obtain ⟨a1, a2, a3, a4, a5⟩ := wE_none hp
  have i1 := isD_i a4
  have hal : al (f p) ≠ 0 := by omega
  -- what the class reads
  have rd : ∀ M1 : Mem, TxC L f M1 → fX8_digitAt (nI (p + 1)) M1 = some (nI (f (p + 1) - 48), M1) ∧ (∃ D, fX8_digitAt (nI (p + 2)) M1 = some (D, M1) ∧ (al (f p) = 3 → D = nI (f (p + 2) - 48))) ∧ M1.1 3 p = nI (f p) ∧ p < 80 := by
    intro M1 h
    have h80 := h.1
    have d1 := c_digitAt (p := p + 1) h (by omega)
    rw [if_pos ⟨by omega, a4⟩] at d1
    have d2 := c_digitAt (p := p + 2) h (by omega)
    refine ⟨d1, ⟨_, d2, fun e => ?_⟩, (h.2.2 p (by omega)).2, by omega⟩
    obtain ⟨c1, c2, c3⟩ := a5 e
    rw [if_pos ⟨by omega, c2⟩]
  have wrapC : ∀ (M1 : Mem) (ok : Bool) (v' : VV) (o : Option (Int32 × Mem)), RuC R F M1 → Ok o (fun q => q.1 = bI ok ∧ RvC 6 n v' q.2 ∧ Fr (fun a => 6 ≤ a ∧ a ≤ 10) M1 q.2) → Ok o (fun q => q.1 = bI ok ∧ RvC 6 n v' q.2 ∧ RuC R F q.2 ∧ Fr (PDy 6 R) M1 q.2) := fun M1 ok v' o hu h => ok_mono h (fun q k => ⟨k.1, k.2.1, ruC_fr hu (k.2.2.1 _ (by omega)) (k.2.2.1 _ (by omega)), fr_sub k.2.2 (fun a ha => by unfold PDy; omega)⟩)
  have wrapR : ∀ (M1 : Mem) (ok : Bool) (v' : VV) (o : Option (Int32 × Mem)), Ok o (fun q => q.1 = bI ok ∧ (∀ i, i < 22 → q.2.1 171 i = v'.1 i) ∧ FrR (fun a => a = 171) (fun _ => False) M1 q.2) → Ok o (fun q => q.1 = bI ok ∧ (∀ i, i < 22 → q.2.1 171 i = v'.1 i) ∧ FrR (PDr 171) SDr M1 q.2) := fun M1 ok v' o h => ok_mono h (fun q k => ⟨k.1, k.2.1, frR_sub k.2.2 (fun a _ ha => Or.inr ha) (fun i hi => hi.elim)⟩)
  rcases al_0 hal with (hc | hc | hc) | (hc | hc | hc)
  · have e3 : al (f p) = 3 := by rw [hc]; rfl
    have ek : ki (f p) = 4 := by rw [hc]; rfl
    obtain ⟨ok, v', w1, w2, w3⟩ := pr_wrap (pr_gap (x := 10 * nI (f (p + 1) - 48) + nI (f (p + 2) - 48)) hw)
    refine ⟨ok, v', w1, fun M1 h1 h2 h3 h4 => ?_, fun s k hk s1 s2 s3 s4 s5 s6 => ?_⟩
    · obtain ⟨r1, ⟨D, r2, r3⟩, r4, r5⟩ := rd M1 h2
      rw [r3 e3] at r2
      rw [e_X9_doAct]
      simp (disch := omega) only [↓reduceIte, ic_t, ic_f, not_true_eq_false, not_false_eq_true, ↓lt_v, rdR, rdE, rdS, leT, leTc, leTd, leF, leFc, leFd, ltT, ltTc, ltTd, ltF, ltFc, ltFd, eqT, eqTc, eqTd, eqF, eqFc, eqFd, m1T, m1F, m1T', m1F', inb_nI, ix_nI, inb_c, ix_c, nI_1, nI_pred, nI_m1, add_nIc, add_cnI, bd_v, reduceCtorEq, eqFcc, m1e0, m1e1, m1l0, m1g0, m2l0, m2g0, Int32.reduceLT, Int32.reduceLE, Int32.reduceAdd, Int32.reduceSub, Int32.reduceMul, eq_self, Bool.false_eq_true, r1, r2, r4]
      exact wrapC M1 ok v' _ h4 (w2 M1 h1)
    · have s6 := s6 e3
      rw [ek] at s4
      have := w3 s s1 s2
      rw [Option.bind_assoc] at this
      rw [e_X10_does]
      simp (disch := omega) only [↓reduceIte, ic_t, ic_f, not_true_eq_false, not_false_eq_true, ↓lt_v, rdR, rdE, rdS, leT, leTc, leTd, leF, leFc, leFd, ltT, ltTc, ltTd, ltF, ltFc, ltFd, eqT, eqTc, eqTd, eqF, eqFc, eqFd, m1T, m1F, m1T', m1F', inb_nI, ix_nI, inb_c, ix_c, nI_1, nI_pred, nI_m1, add_nIc, add_cnI, bd_v, reduceCtorEq, eqFcc, m1e0, m1e1, m1l0, m1g0, m2l0, m2g0, Int32.reduceLT, Int32.reduceLE, Int32.reduceAdd, Int32.reduceSub, Int32.reduceMul, eq_self, Bool.false_eq_true, s4, s5, s6]
      exact wrapR s ok v' _ this
  · have e3 : al (f p) = 3 := by rw [hc]; rfl
    have ek : ki (f p) = 5 := by rw [hc]; rfl
    obtain ⟨ok, v', w1, w2, w3⟩ := pr_wrap (pr_str (x := 10 * nI (f (p + 1) - 48) + nI (f (p + 2) - 48)) hw)
    refine ⟨ok, v', w1, fun M1 h1 h2 h3 h4 => ?_, fun s k hk s1 s2 s3 s4 s5 s6 => ?_⟩
    · obtain ⟨r1, ⟨D, r2, r3⟩, r4, r5⟩ := rd M1 h2
      rw [r3 e3] at r2
      rw [e_X9_doAct]
      simp (disch := omega) only [↓reduceIte, ic_t, ic_f, not_true_eq_false, not_false_eq_true, ↓lt_v, rdR, rdE, rdS, leT, leTc, leTd, leF, leFc, leFd, ltT, ltTc, ltTd, ltF, ltFc, ltFd, eqT, eqTc, eqTd, eqF, eqFc, eqFd, m1T, m1F, m1T', m1F', inb_nI, ix_nI, inb_c, ix_c, nI_1, nI_pred, nI_m1, add_nIc, add_cnI, bd_v, reduceCtorEq, eqFcc, m1e0, m1e1, m1l0, m1g0, m2l0, m2g0, Int32.reduceLT, Int32.reduceLE, Int32.reduceAdd, Int32.reduceSub, Int32.reduceMul, eq_self, Bool.false_eq_true, r1, r2, r4]
      rw [e_X9_doAct_186]
      exact wrapC M1 ok v' _ h4 (w2 M1 h1)
    · have s6 := s6 e3
      rw [ek] at s4
      have := w3 s s1 s2
      rw [Option.bind_assoc] at this
      rw [e_X10_does]
      simp (disch := omega) only [↓reduceIte, ic_t, ic_f, not_true_eq_false, not_false_eq_true, ↓lt_v, rdR, rdE, rdS, leT, leTc, leTd, leF, leFc, leFd, ltT, ltTc, ltTd, ltF, ltFc, ltFd, eqT, eqTc, eqTd, eqF, eqFc, eqFd, m1T, m1F, m1T', m1F', inb_nI, ix_nI, inb_c, ix_c, nI_1, nI_pred, nI_m1, add_nIc, add_cnI, bd_v, reduceCtorEq, eqFcc, m1e0, m1e1, m1l0, m1g0, m2l0, m2g0, Int32.reduceLT, Int32.reduceLE, Int32.reduceAdd, Int32.reduceSub, Int32.reduceMul, eq_self, Bool.false_eq_true, s4, s5, s6]
      exact wrapR s ok v' _ this
  · have e3 : al (f p) = 3 := by rw [hc]; rfl
    have ek : ki (f p) = 3 := by rw [hc]; rfl
    obtain ⟨ok, v', w1, w2, w3⟩ := pr_wrap (pr_pace (x := nI (f (p + 1) - 48)) (y := nI (f (p + 2) - 48)) hw)
    refine ⟨ok, v', w1, fun M1 h1 h2 h3 h4 => ?_, fun s k hk s1 s2 s3 s4 s5 s6 => ?_⟩
    · obtain ⟨r1, ⟨D, r2, r3⟩, r4, r5⟩ := rd M1 h2
      rw [r3 e3] at r2
      rw [e_X9_doAct]
      simp (disch := omega) only [↓reduceIte, ic_t, ic_f, not_true_eq_false, not_false_eq_true, ↓lt_v, rdR, rdE, rdS, leT, leTc, leTd, leF, leFc, leFd, ltT, ltTc, ltTd, ltF, ltFc, ltFd, eqT, eqTc, eqTd, eqF, eqFc, eqFd, m1T, m1F, m1T', m1F', inb_nI, ix_nI, inb_c, ix_c, nI_1, nI_pred, nI_m1, add_nIc, add_cnI, bd_v, reduceCtorEq, eqFcc, m1e0, m1e1, m1l0, m1g0, m2l0, m2g0, Int32.reduceLT, Int32.reduceLE, Int32.reduceAdd, Int32.reduceSub, Int32.reduceMul, eq_self, Bool.false_eq_true, r1, r2, r4]
      exact wrapC M1 ok v' _ h4 (w2 M1 h1)
    · have s6 := s6 e3
      rw [ek] at s4
      rw [e_X10_does]
      simp (disch := omega) only [↓reduceIte, ic_t, ic_f, not_true_eq_false, not_false_eq_true, ↓lt_v, rdR, rdE, rdS, leT, leTc, leTd, leF, leFc, leFd, ltT, ltTc, ltTd, ltF, ltFc, ltFd, eqT, eqTc, eqTd, eqF, eqFc, eqFd, m1T, m1F, m1T', m1F', inb_nI, ix_nI, inb_c, ix_c, nI_1, nI_pred, nI_m1, add_nIc, add_cnI, bd_v, reduceCtorEq, eqFcc, m1e0, m1e1, m1l0, m1g0, m2l0, m2g0, Int32.reduceLT, Int32.reduceLE, Int32.reduceAdd, Int32.reduceSub, Int32.reduceMul, eq_self, Bool.false_eq_true, s4, s5, s6]
      exact wrapR s ok v' _ (w3 s s1 s2)
  · have ek : ki (f p) = 0 := by rw [hc]; rfl
    refine ⟨true, days F n (f (p + 1) - 48) v, wf_days hw _, fun M1 h1 h2 h3 h4 => ?_, fun s k hk s1 s2 s3 s4 s5 s6 => ?_⟩
    · obtain ⟨r1, ⟨D, r2, r3⟩, r4, r5⟩ := rd M1 h2
      rw [e_X9_doAct]
      simp (disch := omega) only [↓reduceIte, ic_t, ic_f, not_true_eq_false, not_false_eq_true, ↓lt_v, rdR, rdE, rdS, leT, leTc, leTd, leF, leFc, leFd, ltT, ltTc, ltTd, ltF, ltFc, ltFd, eqT, eqTc, eqTd, eqF, eqFc, eqFd, m1T, m1F, m1T', m1F', inb_nI, ix_nI, inb_c, ix_c, nI_1, nI_pred, nI_m1, add_nIc, add_cnI, bd_v, reduceCtorEq, eqFcc, m1e0, m1e1, m1l0, m1g0, m2l0, m2g0, Int32.reduceLT, Int32.reduceLE, Int32.reduceAdd, Int32.reduceSub, Int32.reduceMul, eq_self, Bool.false_eq_true, r1, r2, r4, h3]
      refine ok_call (c_pass hw (by omega) hR h1 h4 (by omega)) (fun q k => ?_)
      obtain ⟨k1, k2, k3, k4, k5⟩ := k
      exact ok_some ⟨rfl, k2, k4, k5⟩
    · rw [ek] at s4
      rw [e_X10_does]
      simp (disch := omega) only [↓reduceIte, ic_t, ic_f, not_true_eq_false, not_false_eq_true, ↓lt_v, rdR, rdE, rdS, leT, leTc, leTd, leF, leFc, leFd, ltT, ltTc, ltTd, ltF, ltFc, ltFd, eqT, eqTc, eqTd, eqF, eqFc, eqFd, m1T, m1F, m1T', m1F', inb_nI, ix_nI, inb_c, ix_c, nI_1, nI_pred, nI_m1, add_nIc, add_cnI, bd_v, reduceCtorEq, eqFcc, m1e0, m1e1, m1l0, m1g0, m2l0, m2g0, Int32.reduceLT, Int32.reduceLE, Int32.reduceAdd, Int32.reduceSub, Int32.reduceMul, eq_self, Bool.false_eq_true, s4, s5]
      exact r_does63 hw s1 s2 s3 (by omega)
  · have ek : ki (f p) = 2 := by rw [hc]; rfl
    obtain ⟨ok, v', w1, w2, w3⟩ := pr_wrap (pr_rest (x := nI (f (p + 1) - 48)) hw)
    refine ⟨ok, v', w1, fun M1 h1 h2 h3 h4 => ?_, fun s k hk s1 s2 s3 s4 s5 s6 => ?_⟩
    · obtain ⟨r1, ⟨D, r2, r3⟩, r4, r5⟩ := rd M1 h2
      rw [e_X9_doAct]
      simp (disch := omega) only [↓reduceIte, ic_t, ic_f, not_true_eq_false, not_false_eq_true, ↓lt_v, rdR, rdE, rdS, leT, leTc, leTd, leF, leFc, leFd, ltT, ltTc, ltTd, ltF, ltFc, ltFd, eqT, eqTc, eqTd, eqF, eqFc, eqFd, m1T, m1F, m1T', m1F', inb_nI, ix_nI, inb_c, ix_c, nI_1, nI_pred, nI_m1, add_nIc, add_cnI, bd_v, reduceCtorEq, eqFcc, m1e0, m1e1, m1l0, m1g0, m2l0, m2g0, Int32.reduceLT, Int32.reduceLE, Int32.reduceAdd, Int32.reduceSub, Int32.reduceMul, eq_self, Bool.false_eq_true, r1, r2, r4]
      exact wrapC M1 ok v' _ h4 (w2 M1 h1)
    · rw [ek] at s4
      rw [e_X10_does]
      simp (disch := omega) only [↓reduceIte, ic_t, ic_f, not_true_eq_false, not_false_eq_true, ↓lt_v, rdR, rdE, rdS, leT, leTc, leTd, leF, leFc, leFd, ltT, ltTc, ltTd, ltF, ltFc, ltFd, eqT, eqTc, eqTd, eqF, eqFc, eqFd, m1T, m1F, m1T', m1F', inb_nI, ix_nI, inb_c, ix_c, nI_1, nI_pred, nI_m1, add_nIc, add_cnI, bd_v, reduceCtorEq, eqFcc, m1e0, m1e1, m1l0, m1g0, m2l0, m2g0, Int32.reduceLT, Int32.reduceLE, Int32.reduceAdd, Int32.reduceSub, Int32.reduceMul, eq_self, Bool.false_eq_true, s4, s5]
      exact wrapR s ok v' _ (w3 s s1 s2)
  · have ek : ki (f p) = 1 := by rw [hc]; rfl
    obtain ⟨ok, v', w1, w2, w3⟩ := pr_wrap (pr_foot (x := nI (f (p + 1) - 48)) hw)
    refine ⟨ok, v', w1, fun M1 h1 h2 h3 h4 => ?_, fun s k hk s1 s2 s3 s4 s5 s6 => ?_⟩
    · obtain ⟨r1, ⟨D, r2, r3⟩, r4, r5⟩ := rd M1 h2
      rw [e_X9_doAct]
      simp (disch := omega) only [↓reduceIte, ic_t, ic_f, not_true_eq_false, not_false_eq_true, ↓lt_v, rdR, rdE, rdS, leT, leTc, leTd, leF, leFc, leFd, ltT, ltTc, ltTd, ltF, ltFc, ltFd, eqT, eqTc, eqTd, eqF, eqFc, eqFd, m1T, m1F, m1T', m1F', inb_nI, ix_nI, inb_c, ix_c, nI_1, nI_pred, nI_m1, add_nIc, add_cnI, bd_v, reduceCtorEq, eqFcc, m1e0, m1e1, m1l0, m1g0, m2l0, m2g0, Int32.reduceLT, Int32.reduceLE, Int32.reduceAdd, Int32.reduceSub, Int32.reduceMul, eq_self, Bool.false_eq_true, r1, r2, r4]
      exact wrapC M1 ok v' _ h4 (w2 M1 h1)
    · rw [ek] at s4
      rw [e_X10_does]
      simp (disch := omega) only [↓reduceIte, ic_t, ic_f, not_true_eq_false, not_false_eq_true, ↓lt_v, rdR, rdE, rdS, leT, leTc, leTd, leF, leFc, leFd, ltT, ltTc, ltTd, ltF, ltFc, ltFd, eqT, eqTc, eqTd, eqF, eqFc, eqFd, m1T, m1F, m1T', m1F', inb_nI, ix_nI, inb_c, ix_c, nI_1, nI_pred, nI_m1, add_nIc, add_cnI, bd_v, reduceCtorEq, eqFcc, m1e0, m1e1, m1l0, m1g0, m2l0, m2g0, Int32.reduceLT, Int32.reduceLE, Int32.reduceAdd, Int32.reduceSub, Int32.reduceMul, eq_self, Bool.false_eq_true, s4, s5]
      exact wrapR s ok v' _ (w3 s s1 s2)
