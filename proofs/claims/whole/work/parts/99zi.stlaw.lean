/-! PURE: law -/
def lwL (a b : Nat) (o : Nat → Nat) (k : Nat) : List Int64 := [(nI a).toInt64, (nI b).toInt64] ++ (List.range k).map (fun i => (nI (o i)).toInt64)
theorem lwL_len {a b k : Nat} {o : Nat → Nat} : (lwL a b o k).length = k + 2 := by simp [lwL]
theorem lwL_succ {a b k : Nat} {o : Nat → Nat} : lwL a b o k ++ [(nI (o k)).toInt64] = lwL a b o (k + 1) := by
  unfold lwL
  rw [List.range_succ, List.map_append, List.append_assoc]
  rfl
theorem c_lawgo {S : SP} {M : Mem} {a0 : Nat} {F2 : (Nat → Int32) → Int32} (hS : spOK S) (hc : CRel S M) (ha0 : M.2.2 1 18 = a0) (hR : a0 = 146 ∨ a0 = 150) (hu : RuC a0 F2 M) : Ok ((fX3_run 6 (M.2.2 1 17) M).bind fun q8 => lt (q8.1 108 5) fun y10 => (fX4_copyFrom 16 6 q8).bind fun q12 => (fX9_passDays 16 (q12.2.2 1 18) 1 q12).bind fun q15 => (fX5_tellBoth q15.1.toInt64 y10.toInt64 q15.2).bind fun q17 => fX9_law_88 FU y10 q15.1 0 q17)
    (QC (nI (TT F2 S.1.1 S.1.2.1).2.1 - nI (TT S.1.2.2 S.1.1 S.1.2.1).2.1) (some (lwL (TT F2 S.1.1 S.1.2.1).2.1 (TT S.1.2.2 S.1.1 S.1.2.1).2.1 (day1 F2 S.1.1 S.1.2.1).2 S.1.1)) M) := by
  have hn : S.1.1 ≤ 6 := hS.1.1
  obtain ⟨h1, h2, h3, _, h5⟩ := hc.1
  have hsp := hc.2.1
  refine ok_call (c_runT h1 (by omega) h5 h2 h3) (fun M1 g => ?_)
  obtain ⟨⟨L, hL⟩, hf⟩ := g
  rw [lt_v, hL.2.2.2.2.1]
  have v6 : RvC 6 S.1.1 S.1.2.1 M1 := rivC_fr h2 (fun a a1 a2 => hf.1 a (by unfold PRu; omega))
  refine ok_call (c_copy (r := 16) (r2 := 6) hn (by omega) v6) (fun M2 k => ?_)
  have e18 : M2.2.2 1 18 = a0 := by rw [k.2.2, hf.2]; exact ha0
  rw [e18]
  have hu1 : RuC a0 F2 M1 := ruC_fr hu (hf.1 _ (by unfold PRu; omega)) (hf.1 _ (by unfold PRu; omega))
  have hu2 : RuC a0 F2 M2 := ruC_fr hu1 (k.2.1 _ (by omega)) (k.2.1 _ (by omega))
  refine ok_call (c_pass1 h1 (by omega) hR k.1 hu2) (fun q w => ?_)
  obtain ⟨w1, w2, _, _, w5⟩ := w
  rw [w1]
  have kc : KC M q.2 := kc_fr (fr_trans (fr_trans (fr_SCu hf h5) (fr_sub k.2 (fun a ha => by unfold SC; omega))) (fr_SC w5 (by omega) hR))
  refine ok_call (c_tellB kc) (fun M4 t => ?_)
  have hwd : WfV S.1.1 (day1 F2 S.1.1 S.1.2.1) := wf_days (F := F2) h1 1
  have r16 : M4.1 16 0 = nI S.1.1 := by rw [t.2.2.1 16 (by omega)]; exact w2.1
  have r20 : ∀ i, i < S.1.1 → M4.1 20 i = nI ((day1 F2 S.1.1 S.1.2.1).2 i) := fun i hi => by rw [t.2.2.1 20 (by omega)]; exact w2.2.2.2.2.1 i hi
  have hFU : 2000 < FU := FU_big
  generalize FU = fu0 at hFU ⊢
  refine ok_loop S.1.1 (fun fu i s => fX9_law_88 fu (nI (TT S.1.2.2 S.1.1 S.1.2.1).2.1) (nI (TT F2 S.1.1 S.1.2.1).2.1) (nI i) s) (fun i s => KC M s ∧ CRow (some (lwL (TT F2 S.1.1 S.1.2.1).2.1 (TT S.1.2.2 S.1.1 S.1.2.1).2.1 (day1 F2 S.1.1 S.1.2.1).2 i)) M s ∧ s.1 16 0 = nI S.1.1 ∧ ∀ i, i < S.1.1 → s.1 20 i = nI ((day1 F2 S.1.1 S.1.2.1).2 i)) ?_ ?_ fu0 0 M4 (by omega) (by omega) ⟨t.1, t.2.1, r16, r20⟩
  · intro fu i s hi hs ih
    obtain ⟨s1, s2, s3, s4⟩ := hs
    have e20 := s4 i hi
    rw [e_X9_law_88]
    simp (disch := omega) only [↓reduceIte, ic_t, ic_f, not_true_eq_false, not_false_eq_true, ↓lt_v, rdR, rdE, rdS, leT, leTc, leTd, leF, leFc, leFd, ltT, ltTc, ltTd, ltF, ltFc, ltFd, eqT, eqTc, eqTd, eqF, eqFc, eqFd, m1T, m1F, m1T', m1F', inb_nI, ix_nI, inb_c, ix_c, nI_1, nI_pred, nI_m1, add_nIc, add_cnI, bd_v, reduceCtorEq, eqFcc, m1e0, m1e1, m1l0, m1g0, m2l0, m2g0, Int32.reduceLT, Int32.reduceLE, Int32.reduceAdd, Int32.reduceSub, Int32.reduceMul, eq_self, Bool.false_eq_true, s3, e20]
    refine ok_call (c_add (by rw [lwL_len]; omega) s1 s2) (fun s' z => ?_)
    rw [lwL_succ] at z
    exact ih s' ⟨z.1, z.2.1, by rw [z.2.2.1 16 (by omega)]; exact s3, fun i hi => by rw [z.2.2.1 20 (by omega)]; exact s4 i hi⟩
  · intro fu s hs
    obtain ⟨s1, s2, s3, s4⟩ := hs
    rw [e_X9_law_88]
    simp (disch := omega) only [↓reduceIte, ic_t, ic_f, not_true_eq_false, not_false_eq_true, ↓lt_v, rdR, rdE, rdS, leT, leTc, leTd, leF, leFc, leFd, ltT, ltTc, ltTd, ltF, ltFc, ltFd, eqT, eqTc, eqTd, eqF, eqFc, eqFd, m1T, m1F, m1T', m1F', inb_nI, ix_nI, inb_c, ix_c, nI_1, nI_pred, nI_m1, add_nIc, add_cnI, bd_v, reduceCtorEq, eqFcc, m1e0, m1e1, m1l0, m1g0, m2l0, m2g0, Int32.reduceLT, Int32.reduceLE, Int32.reduceAdd, Int32.reduceSub, Int32.reduceMul, eq_self, Bool.false_eq_true, s3]
    exact ok_some ⟨rfl, s1, s2⟩
theorem ruR_weak {F : (Nat → Int32) → Int32} {M M' : Mem} {len : Nat} (h : RuR F M) (hl : len ≤ 80) (h16 : M.1 169 16 = nI len) (h16' : M'.1 169 16 = nI len) (hk : ∀ k, k < len → M'.1 175 k = M.1 175 k) : RuR F M' := by
  obtain ⟨⟨l, l1, l2, l3⟩, g⟩ := h
  have : l = len := by rw [l2] at h16; exact (nI_eq (by omega) (by omega)).1 h16
  subst this
  exact ⟨⟨l, l1, h16', fun N a b => l3 N (fun k kl => (a k kl).trans (hk k kl)) b⟩, g⟩
theorem r_lawgo {S : SP} {M : Mem} {rl : Nat} {F2 : (Nat → Int32) → Int32} (hS : spOK S) (hr : RRel S M) (hrl : rl ≤ 80) (h17 : M.1 169 17 = nI rl) (hu2 : ∀ M' : Mem, M'.1 169 16 = nI rl → (∀ k, k < rl → M'.1 175 k = M.1 176 k) → RuR F2 M') : Ok ((fX10_races 171 (M.1 171 19) M).bind fun q7 => lt (q7.1 169 27) fun y9 => lt (q7.1 169 16) fun y11 => fX10_law_50 FU y9 y11 0 q7)
    (fun q => q.1 = nI (TT F2 S.1.1 S.1.2.1).2.1 - nI (TT S.1.2.2 S.1.1 S.1.2.1).2.1 ∧ RRel (rowS S (some (lwL (TT F2 S.1.1 S.1.2.1).2.1 (TT S.1.2.2 S.1.1 S.1.2.1).2.1 (day1 F2 S.1.1 S.1.2.1).2 S.1.1))) q.2 ∧ RFr M q.2) := by
  have hn : S.1.1 ≤ 6 := hS.1.1
  have hc := hr.1
  obtain ⟨⟨len, l1, l2, l3⟩, _⟩ := hc.2.2.2
  rw [hc.2.2.1 19 (by omega)]
  refine ok_call (r_raceT hc) (fun M1 g => ?_)
  obtain ⟨⟨L, hL⟩, hf⟩ := g
  have e16 : M1.1 169 16 = nI len := by rw [hf.2.1 16 (by unfold ST; omega)]; exact l2
  rw [lt_v, lt_v, hL.2.2.2.2.1, e16]
  have hFU : 2000 < FU := FU_big
  generalize e0 : FU = fu0 at hFU
  refine ok_loop len (fun fu k s => fX10_law_50 fu (nI (TT S.1.2.2 S.1.1 S.1.2.1).2.1) (nI len) (nI k) s) (fun k s => s.1 169 16 = nI len ∧ (∀ i, i < k → s.1 201 i = M.1 175 i) ∧ FrR (fun a => PRr a ∨ a = 201) ST M s) ?_ ?_ fu0 0 M1 (by omega) (by omega) ⟨e16, fun i hi => absurd hi (Nat.not_lt_zero _), frR_sub hf (fun a _ ha => Or.inl ha) (fun i hi => hi)⟩
  · intro fu k s hk hs ih
    obtain ⟨s1, s2, s3⟩ := hs
    have e175 : s.1 175 k = M.1 175 k := by rw [s3.1 175 (by omega) (by unfold PRr; omega)]
    rw [e_X10_law_50]
    simp (disch := omega) only [↓reduceIte, ic_t, ic_f, not_true_eq_false, not_false_eq_true, ↓lt_v, rdR, rdE, rdS, leT, leTc, leTd, leF, leFc, leFd, ltT, ltTc, ltTd, ltF, ltFc, ltFd, eqT, eqTc, eqTd, eqF, eqFc, eqFd, m1T, m1F, m1T', m1F', inb_nI, ix_nI, inb_c, ix_c, nI_1, nI_pred, nI_m1, add_nIc, add_cnI, bd_v, reduceCtorEq, eqFcc, m1e0, m1e1, m1l0, m1g0, m2l0, m2g0, Int32.reduceLT, Int32.reduceLE, Int32.reduceAdd, Int32.reduceSub, Int32.reduceMul, eq_self, Bool.false_eq_true, s1, e175]
    refine ih _ ⟨by simp (disch := omega) only [↓reduceIte, ic_t, ic_f, not_true_eq_false, not_false_eq_true, ↓lt_v, rdR, rdE, rdS, leT, leTc, leTd, leF, leFc, leFd, ltT, ltTc, ltTd, ltF, ltFc, ltFd, eqT, eqTc, eqTd, eqF, eqFc, eqFd, m1T, m1F, m1T', m1F', inb_nI, ix_nI, inb_c, ix_c, nI_1, nI_pred, nI_m1, add_nIc, add_cnI, bd_v, reduceCtorEq, eqFcc, m1e0, m1e1, m1l0, m1g0, m2l0, m2g0, Int32.reduceLT, Int32.reduceLE, Int32.reduceAdd, Int32.reduceSub, Int32.reduceMul, eq_self, Bool.false_eq_true]; exact s1, fun i hi => ?_, frR_trans s3 (frR_sI (by omega) (by omega))⟩
    by_cases q : i = k
    · subst q; simp (disch := omega) only [↓reduceIte, ic_t, ic_f, not_true_eq_false, not_false_eq_true, ↓lt_v, rdR, rdE, rdS, leT, leTc, leTd, leF, leFc, leFd, ltT, ltTc, ltTd, ltF, ltFc, ltFd, eqT, eqTc, eqTd, eqF, eqFc, eqFd, m1T, m1F, m1T', m1F', inb_nI, ix_nI, inb_c, ix_c, nI_1, nI_pred, nI_m1, add_nIc, add_cnI, bd_v, reduceCtorEq, eqFcc, m1e0, m1e1, m1l0, m1g0, m2l0, m2g0, Int32.reduceLT, Int32.reduceLE, Int32.reduceAdd, Int32.reduceSub, Int32.reduceMul, eq_self, Bool.false_eq_true]
    · simp (disch := omega) only [↓reduceIte, ic_t, ic_f, not_true_eq_false, not_false_eq_true, ↓lt_v, rdR, rdE, rdS, leT, leTc, leTd, leF, leFc, leFd, ltT, ltTc, ltTd, ltF, ltFc, ltFd, eqT, eqTc, eqTd, eqF, eqFc, eqFd, m1T, m1F, m1T', m1F', inb_nI, ix_nI, inb_c, ix_c, nI_1, nI_pred, nI_m1, add_nIc, add_cnI, bd_v, reduceCtorEq, eqFcc, m1e0, m1e1, m1l0, m1g0, m2l0, m2g0, Int32.reduceLT, Int32.reduceLE, Int32.reduceAdd, Int32.reduceSub, Int32.reduceMul, eq_self, Bool.false_eq_true]; exact s2 i (by omega)
  · intro fu s hs
    obtain ⟨s1, s2, s3⟩ := hs
    have s17 : s.1 169 17 = nI rl := by rw [s3.2.1 17 (by unfold ST; omega)]; exact h17
    rw [e_X10_law_50]
    simp (disch := omega) only [↓reduceIte, ic_t, ic_f, not_true_eq_false, not_false_eq_true, ↓lt_v, rdR, rdE, rdS, leT, leTc, leTd, leF, leFc, leFd, ltT, ltTc, ltTd, ltF, ltFc, ltFd, eqT, eqTc, eqTd, eqF, eqFc, eqFd, m1T, m1F, m1T', m1F', inb_nI, ix_nI, inb_c, ix_c, nI_1, nI_pred, nI_m1, add_nIc, add_cnI, bd_v, reduceCtorEq, eqFcc, m1e0, m1e1, m1l0, m1g0, m2l0, m2g0, Int32.reduceLT, Int32.reduceLE, Int32.reduceAdd, Int32.reduceSub, Int32.reduceMul, eq_self, Bool.false_eq_true, s1, s17]
    refine ok_call (r_laysCode (n := rl) ln176 (by omega) (by omega) hrl) (fun s4 k => ?_)
    obtain ⟨k1, k2, k3⟩ := k
    have hF2 : RuR F2 s4 := hu2 s4 k1 (fun j hj => by rw [k2 j hj, s3.1 176 (by omega) (by unfold PRr; omega)])
    refine ok_call (r_copies (M := s4)) (fun s5 c => ?_)
    obtain ⟨c1, c2⟩ := c
    have v172 : ∀ i, i < 22 → s5.1 172 i = S.1.2.1.1 i := fun i hi => by rw [c1 i hi, k3.1 171 (by omega) (by omega), s3.1 171 (by omega) (by unfold PRr; omega)]; exact hc.2.2.1 i hi
    have x3 : s5.1 169 3 = nI S.1.1 := by rw [c2.2.1 3 (fun q => q), k3.2.1 3 (by omega), s3.2.1 3 (by unfold ST; omega)]; exact hc.2.1
    have go := r_goesOn (d := 1) hS.1 ln172 (by omega) x3 v172 (ruR_fr hF2 (c2.1 175 (by omega) (by omega)) (c2.2.1 16 (fun q => q))) (by omega)
    rw [show nI 1 = (1 : Int32) from rfl] at go
    refine ok_call go (fun s6 d => ?_)
    obtain ⟨d1, d2, _, d4, d5⟩ := d
    refine ok_call (r_laysCode (n := len) ln201 (by omega) (by omega) l1) (fun s7 m => ?_)
    obtain ⟨m1, m2, m3⟩ := m
    have fA : ∀ a, a ≠ 169 → a ≠ 175 → ¬ SR a → s7.1 a = M.1 a := fun a a1 a2 a3 => by
      unfold SR at a3
      rw [m3.1 a a1 a2, d5.1 a a1 (by unfold PDr; omega), c2.1 a a1 (by omega), k3.1 a a1 a2, s3.1 a a1 (by unfold PRr; omega)]
    have fI : ∀ i, i ≠ 16 → ¬ SS1 i → s7.1 169 i = M.1 169 i := fun i i1 i2 => by
      unfold SS1 SS at i2
      rw [m3.2.1 i i1, d5.2.1 i (by unfold SDr; omega), c2.2.1 i (fun q => q), k3.2.1 i i1, s3.2.1 i (by unfold ST; omega)]
    have f2 : s7.2 = M.2 := by rw [m3.2.2, d5.2.2, c2.2.2, k3.2.2, s3.2.2]
    have hF1 : RuR S.1.2.2 s7 := ruR_weak hc.2.2.2 l1 l2 m1 (fun k hk => by
      rw [m2 k hk, d5.1 201 (by omega) (by unfold PDr; omega), c2.1 201 (by omega) (by omega), k3.1 201 (by omega) (by omega)]
      exact s2 k hk)
    have r7 : RRel S s7 := rrel_ru hr ⟨rfl, rfl, rfl⟩ hF1 fA fI f2
    have rf7 : RFr M s7 := ⟨fun a ha => ⟨fA a (by omega) (by omega) (by unfold SR; omega), by rw [f2]⟩, by rw [f2]⟩
    have e30 : s7.1 169 30 = nI (TT F2 S.1.1 S.1.2.1).2.1 := by
      rw [m3.2.1 30 (by omega), d2]
      show nI (0 + (TT F2 S.1.1 (days F2 S.1.1 0 S.1.2.1)).2.1) = _
      rw [Nat.zero_add]
      rfl
    have hwd : WfV S.1.1 (day1 F2 S.1.1 S.1.2.1) := wf_days (F := F2) hS.1 1
    have v7 : ∀ i, i < 22 → s7.1 172 i = (day1 F2 S.1.1 S.1.2.1).1 i := fun i hi => by rw [m3.1 172 (by omega) (by omega)]; exact d1 i hi
    have y3 : s7.1 169 3 = nI S.1.1 := r7.1.2.1
    obtain ⟨z1, z2⟩ := r_zero (kr_rfl (M := s7))
    have ez : (sI s7 169 1 0).1 169 30 = nI (TT F2 S.1.1 S.1.2.1).2.1 := by simp (disch := omega) only [↓reduceIte, ic_t, ic_f, not_true_eq_false, not_false_eq_true, ↓lt_v, rdR, rdE, rdS, leT, leTc, leTd, leF, leFc, leFd, ltT, ltTc, ltTd, ltF, ltFc, ltFd, eqT, eqTc, eqTd, eqF, eqFc, eqFd, m1T, m1F, m1T', m1F', inb_nI, ix_nI, inb_c, ix_c, nI_1, nI_pred, nI_m1, add_nIc, add_cnI, bd_v, reduceCtorEq, eqFcc, m1e0, m1e1, m1l0, m1g0, m2l0, m2g0, Int32.reduceLT, Int32.reduceLE, Int32.reduceAdd, Int32.reduceSub, Int32.reduceMul, eq_self, Bool.false_eq_true]; exact e30
    simp (disch := omega) only [↓reduceIte, ic_t, ic_f, not_true_eq_false, not_false_eq_true, ↓lt_v, rdR, rdE, rdS, leT, leTc, leTd, leF, leFc, leFd, ltT, ltTc, ltTd, ltF, ltFc, ltFd, eqT, eqTc, eqTd, eqF, eqFc, eqFd, m1T, m1F, m1T', m1F', inb_nI, ix_nI, inb_c, ix_c, nI_1, nI_pred, nI_m1, add_nIc, add_cnI, bd_v, reduceCtorEq, eqFcc, m1e0, m1e1, m1l0, m1g0, m2l0, m2g0, Int32.reduceLT, Int32.reduceLE, Int32.reduceAdd, Int32.reduceSub, Int32.reduceMul, eq_self, Bool.false_eq_true, e30]
    refine ok_call (r_enters (l := []) (by simp) z1 z2) (fun s8 t => ?_)
    refine ok_call (r_enters (l := [(nI (TT F2 S.1.1 S.1.2.1).2.1).toInt64]) (by simp) t.1 t.2.1) (fun s9 u => ?_)
    have w3 : s9.1 169 3 = nI S.1.1 := by rw [u.2.2.2 3 (by omega), t.2.2.2 3 (by omega)]; simp (disch := omega) only [↓reduceIte, ic_t, ic_f, not_true_eq_false, not_false_eq_true, ↓lt_v, rdR, rdE, rdS, leT, leTc, leTd, leF, leFc, leFd, ltT, ltTc, ltTd, ltF, ltFc, ltFd, eqT, eqTc, eqTd, eqF, eqFc, eqFd, m1T, m1F, m1T', m1F', inb_nI, ix_nI, inb_c, ix_c, nI_1, nI_pred, nI_m1, add_nIc, add_cnI, bd_v, reduceCtorEq, eqFcc, m1e0, m1e1, m1l0, m1g0, m2l0, m2g0, Int32.reduceLT, Int32.reduceLE, Int32.reduceAdd, Int32.reduceSub, Int32.reduceMul, eq_self, Bool.false_eq_true]; exact y3
    have w30 : s9.1 169 30 = nI (TT F2 S.1.1 S.1.2.1).2.1 := by rw [u.2.2.2 30 (by omega), t.2.2.2 30 (by omega)]; exact ez
    have w172 : ∀ i, i < 22 → s9.1 172 i = (day1 F2 S.1.1 S.1.2.1).1 i := fun i hi => by rw [u.2.2.1 172 (by omega), t.2.2.1 172 (by omega)]; simp (disch := omega) only [↓reduceIte, ic_t, ic_f, not_true_eq_false, not_false_eq_true, ↓lt_v, rdR, rdE, rdS, leT, leTc, leTd, leF, leFc, leFd, ltT, ltTc, ltTd, ltF, ltFc, ltFd, eqT, eqTc, eqTd, eqF, eqFc, eqFd, m1T, m1F, m1T', m1F', inb_nI, ix_nI, inb_c, ix_c, nI_1, nI_pred, nI_m1, add_nIc, add_cnI, bd_v, reduceCtorEq, eqFcc, m1e0, m1e1, m1l0, m1g0, m2l0, m2g0, Int32.reduceLT, Int32.reduceLE, Int32.reduceAdd, Int32.reduceSub, Int32.reduceMul, eq_self, Bool.false_eq_true]; exact v7 i hi
    have hFU3 : 2000 < FU := FU_big
    clear e0
    generalize FU = fu3 at hFU3 ⊢
    refine ok_loop S.1.1 (fun fu i x => fX10_law_136 fu (nI (TT S.1.2.2 S.1.1 S.1.2.1).2.1) (nI i) x) (fun i x => KR s7 x ∧ RRow (some (lwL (TT F2 S.1.1 S.1.2.1).2.1 (TT S.1.2.2 S.1.1 S.1.2.1).2.1 (day1 F2 S.1.1 S.1.2.1).2 i)) s7 x ∧ x.1 169 3 = nI S.1.1 ∧ x.1 169 30 = nI (TT F2 S.1.1 S.1.2.1).2.1 ∧ ∀ i, i < 22 → x.1 172 i = (day1 F2 S.1.1 S.1.2.1).1 i) ?_ ?_ fu3 0 s9 (by omega) (by omega) ⟨u.1, u.2.1, w3, w30, w172⟩
    · intro fu i x hi hx ih
      obtain ⟨x1, x2, x3, x4, x5⟩ := hx
      have hb := r_boatOn (k := i) hwd ln172 x3 x5 hi
      rw [e_X10_law_136]
      simp (disch := omega) only [↓reduceIte, ic_t, ic_f, not_true_eq_false, not_false_eq_true, ↓lt_v, rdR, rdE, rdS, leT, leTc, leTd, leF, leFc, leFd, ltT, ltTc, ltTd, ltF, ltFc, ltFd, eqT, eqTc, eqTd, eqF, eqFc, eqFd, m1T, m1F, m1T', m1F', inb_nI, ix_nI, inb_c, ix_c, nI_1, nI_pred, nI_m1, add_nIc, add_cnI, bd_v, reduceCtorEq, eqFcc, m1e0, m1e1, m1l0, m1g0, m2l0, m2g0, Int32.reduceLT, Int32.reduceLE, Int32.reduceAdd, Int32.reduceSub, Int32.reduceMul, eq_self, Bool.false_eq_true, x3, hb]
      refine ok_call (r_enters (by rw [lwL_len]; omega) x1 x2) (fun x' y => ?_)
      rw [lwL_succ] at y
      exact ih x' ⟨y.1, y.2.1, by rw [y.2.2.2 3 (by omega)]; exact x3, by rw [y.2.2.2 30 (by omega)]; exact x4, fun i hi => by rw [y.2.2.1 172 (by omega)]; exact x5 i hi⟩
    · intro fu x hx
      obtain ⟨x1, x2, x3, x4, x5⟩ := hx
      rw [e_X10_law_136]
      simp (disch := omega) only [↓reduceIte, ic_t, ic_f, not_true_eq_false, not_false_eq_true, ↓lt_v, rdR, rdE, rdS, leT, leTc, leTd, leF, leFc, leFd, ltT, ltTc, ltTd, ltF, ltFc, ltFd, eqT, eqTc, eqTd, eqF, eqFc, eqFd, m1T, m1F, m1T', m1F', inb_nI, ix_nI, inb_c, ix_c, nI_1, nI_pred, nI_m1, add_nIc, add_cnI, bd_v, reduceCtorEq, eqFcc, m1e0, m1e1, m1l0, m1g0, m2l0, m2g0, Int32.reduceLT, Int32.reduceLE, Int32.reduceAdd, Int32.reduceSub, Int32.reduceMul, eq_self, Bool.false_eq_true, x3, x4]
      exact ok_some ⟨rfl, rrel_q r7 x1 x2, rfr_tr rf7 (kr_rfr x1)⟩
theorem st_lawc {M : Mem} (h : Rel M) : StI (fun M => fX9_law M) (fun M => fX10_law M) M := by
  obtain ⟨S, hS, hc, hr⟩ := h
  have hn : S.1.1 ≤ 6 := hS.1.1
  have hRR := hc.1.2.2.2.2
  have ha0 := hc.2.1
  generalize ea0 : M.2.2 1 18 = a0 at ha0
  have hR : a0 = 146 ∨ a0 = 150 := by omega
  obtain ⟨ok, e, F, he, hC, hRf⟩ := ru_out (L := S.2.1.1) (f := S.2.1.2) hR hc.2.2.1.1 (tx_f hc.2.2.1)
  have ref : ∀ (M1 : Mem) (Q : Int32 × Mem → Prop), RRel S M1 → (∀ q : Int32 × Mem, q.1 = (if ok = true then 0 else -1 - nI e) → RRel (emS S) q.2 → RFr M1 q.2 → (ok = true → ∃ rl, rl ≤ 80 ∧ q.2.1 169 17 = nI rl ∧ ∀ M' : Mem, M'.1 169 16 = nI rl → (∀ k, k < rl → M'.1 175 k = q.2.1 176 k) → RuR F M') → Ok (ic (0 ≤ q.1) ((ic (inb 19 22) ((fX10_races 171 (q.2.1 171 (ix 19)) q.2).bind fun q7 => lt (q7.1 169 27) fun y9 => lt (q7.1 169 16) fun y11 => fX10_law_50 FU y9 y11 0 q7) (none))) ((some ((q.1 + 1) - 10000, q.2)))) Q) → Ok (fX10_law M1) Q := by
    intro M1 Q r1 hk
    rw [e_X10_law, lt_v]
    have f0 : FrR (fun a => a = 176) (fun i => i = 0) M1 (sI M1 169 0 0) := frR_sI (by omega) (by omega)
    have r2 : RRel S (sI M1 169 0 0) := rrel_frS (P := fun _ => False) (T := fun i => i = 0) r1 (frR_sI (by omega) (by omega)) (fun a ha => ha.elim) (fun i hi => by unfold SS1 SS; omega)
    refine ok_call (hRf _ r2.2.1) (fun q g => ?_)
    obtain ⟨g1, g2, g3, g4⟩ := g
    exact hk q g1 (rrel_em r2 g2 g3) (rfr_tr (rfr_of f0 (fun a ha => by omega)) (rfr_of g2 (fun a ha => by omega))) g4
  cases hok : ok
  · refine st_gen (S' := emS S) (x := -10000 - nI e) (spOK_emS hS) hr ?_ (fun M1 r1 => ref M1 _ r1 (fun q k1 k2 k3 _ => ?_))
    · show Ok (fX9_law M) _
      rw [e_X9_law, ea0]
      refine ok_call (hC M hc.2.2.1) (fun q g => ?_)
      obtain ⟨g1, g2, g3⟩ := g
      rw [hok, if_neg (by decide)] at g1
      rw [lt_v, g1, ic_neg (nI_pos (by omega))]
      exact ok_some ⟨rfl, crel_empty (crel_sp hc ha0 g2), fun a ha => ⟨by rw [row_n (by omega), g2.1 a (by omega)], by show q.2.2.1 a = _; rw [g2.2]⟩⟩
    · rw [hok, if_neg (by decide)] at k1
      obtain ⟨_, n2, n3⟩ := neg_ne e (by omega)
      rw [k1, ic_neg n2, n3]
      exact ok_some ⟨rfl, k2, k3⟩
  · refine st_gen (S' := rowS (emS S) (some (lwL (TT F S.1.1 S.1.2.1).2.1 (TT S.1.2.2 S.1.1 S.1.2.1).2.1 (day1 F S.1.1 S.1.2.1).2 S.1.1))) (x := nI (TT F S.1.1 S.1.2.1).2.1 - nI (TT S.1.2.2 S.1.1 S.1.2.1).2.1) (ok_rowS (spOK_emS hS) (fun l' el => by cases el; rw [lwL_len]; omega)) hr ?_ (fun M1 r1 => ref M1 _ r1 (fun q k1 k2 k3 k4 => ?_))
    · show Ok (fX9_law M) _
      rw [e_X9_law, ea0]
      refine ok_call (hC M hc.2.2.1) (fun q g => ?_)
      obtain ⟨g1, g2, g3⟩ := g
      rw [hok, if_pos rfl] at g1
      rw [lt_v, g1, ic_pos m1lt0]
      have k1 : CRel (emS S) (sI q.2 2 1 0) := crel_empty (crel_sp hc ha0 g2)
      have hu : RuC a0 F (sI q.2 2 1 0) := ruC_fr (g3 hok) (row_n (by omega)) (row_n (by omega))
      have e18 : (sI q.2 2 1 0).2.2 1 18 = a0 := by show q.2.2.2 1 18 = _; rw [g2.2]; exact ea0
      have cf : CFr M (sI q.2 2 1 0) := fun a ha => ⟨by rw [row_n (by omega), g2.1 a (by omega)], by show q.2.2.1 a = _; rw [g2.2]⟩
      generalize sI q.2 2 1 0 = M4 at k1 hu e18 cf ⊢
      refine ok_mono (c_lawgo (S := emS S) (spOK_emS hS) k1 e18 hR hu) (fun r w => ⟨w.1, crel_q k1 w.2.1 w.2.2, cfr_tr cf (kc_cfr w.2.1)⟩)
    · rw [hok, if_pos rfl] at k1
      obtain ⟨rl, l1, l2, l3⟩ := k4 hok
      rw [k1, ic_pos i00, ic_pos (show inb 19 22 = true by decide)]
      have := r_lawgo (S := emS S) (spOK_emS hS) k2 l1 l2 l3
      refine ok_mono this (fun r w => ⟨w.1, w.2.1, rfr_tr k3 w.2.2⟩)
