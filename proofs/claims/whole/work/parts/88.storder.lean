/-! PURE: calls that begin with an order -/
theorem cfr_tr {M M' M'' : Mem} (h : CFr M M') (h' : CFr M' M'') : CFr M M'' := fun a ha => ⟨(h' a ha).1.trans (h a ha).1, (h' a ha).2.trans (h a ha).2⟩
theorem rfr_tr {M M' M'' : Mem} (h : RFr M M') (h' : RFr M' M'') : RFr M M'' := ⟨fun a ha => ⟨(h'.1 a ha).1.trans (h.1 a ha).1, (h'.1 a ha).2.trans (h.1 a ha).2⟩, h'.2.trans h.2⟩
theorem c_orderFault {S : SP} {M : Mem} {K : Nat} (hS : spOK S) (hc : CRel S M) (hK : K ≤ S.1.1) (hall : ∀ i, i < K → oG S.2.1.1 S.1.1 S.2.1.2 0 i) (hend : K = S.1.1 ∨ (K < S.1.1 ∧ ¬ oG S.2.1.1 S.1.1 S.2.1.2 0 K)) : Ok (fX9_orderFault M) (fun q => q.1 = (if K = S.1.1 ∧ S.2.1.1 ≤ S.1.1 then -1 else nI K) ∧ (∀ i, i < K → q.2.1 142 i = nI (S.2.1.2 i - 48)) ∧ CRel (emS S) q.2 ∧ CFr M q.2) := by
  have hn : S.1.1 ≤ 6 := hS.1.1
  have h80 := hc.2.2.1.1
  rw [e_X9_orderFault]
  refine ok_call (c_readOrder (p := 0) hn (by omega) hc.2.2.1 hc.1.2.1.1 hK hall hend) (fun q g => ?_)
  obtain ⟨g1, g2, g3⟩ := g
  have hq : CRel S q.2 := crel_q (l := none) hc ⟨fun a h1 h2 => g3.1 a (by unfold SC at h1; omega), fun a _ => by rw [g3.2], by rw [g3.2]⟩ ⟨g3.1 4 (by omega), by rw [g3.2]⟩
  have cf : CFr M (sI q.2 2 1 0) := fun a ha => ⟨by rw [row_n (by omega), g3.1 a (by omega)], by show q.2.2.1 a = _; rw [g3.2]⟩
  have st := crel_empty hq
  have e2 := hq.2.2.1.2.1
  have e6 : q.2.1 6 0 = nI S.1.1 := hq.1.2.1.1
  have row : ∀ i, i < K → (sI q.2 2 1 0).1 142 i = nI (S.2.1.2 i - 48) := fun i hi => by
    rw [rdR (by omega), g2 i hi, Nat.zero_add]
  rw [g1]
  by_cases c : K = S.1.1
  · rw [if_pos c]
    by_cases c2 : S.2.1.1 ≤ S.1.1
    · simp (disch := omega) only [↓reduceIte, ic_t, ic_f, not_true_eq_false, not_false_eq_true, ↓lt_v, rdR, rdE, rdS, leT, leTc, leTd, leF, leFc, leFd, ltT, ltTc, ltTd, ltF, ltFc, ltFd, eqT, eqTc, eqTd, eqF, eqFc, eqFd, m1T, m1F, m1T', m1F', inb_nI, ix_nI, inb_c, ix_c, nI_1, nI_pred, nI_m1, add_nIc, add_cnI, bd_v, reduceCtorEq, eqFcc, m1e0, m1e1, m1l0, m1g0, m2l0, m2g0, Int32.reduceLT, Int32.reduceLE, Int32.reduceAdd, Int32.reduceSub, Int32.reduceMul, eq_self, Bool.false_eq_true, e2, e6]
      rw [if_pos ⟨c, c2⟩]
      exact ok_some ⟨rfl, row, st, cf⟩
    · simp (disch := omega) only [↓reduceIte, ic_t, ic_f, not_true_eq_false, not_false_eq_true, ↓lt_v, rdR, rdE, rdS, leT, leTc, leTd, leF, leFc, leFd, ltT, ltTc, ltTd, ltF, ltFc, ltFd, eqT, eqTc, eqTd, eqF, eqFc, eqFd, m1T, m1F, m1T', m1F', inb_nI, ix_nI, inb_c, ix_c, nI_1, nI_pred, nI_m1, add_nIc, add_cnI, bd_v, reduceCtorEq, eqFcc, m1e0, m1e1, m1l0, m1g0, m2l0, m2g0, Int32.reduceLT, Int32.reduceLE, Int32.reduceAdd, Int32.reduceSub, Int32.reduceMul, eq_self, Bool.false_eq_true, e2, e6]
      rw [if_neg (fun q => c2 q.2)]
      exact ok_some ⟨by rw [c], row, st, cf⟩
  · rw [if_neg c, if_neg (fun q => c q.1)]
    simp (disch := omega) only [↓reduceIte, ic_t, ic_f, not_true_eq_false, not_false_eq_true, ↓lt_v, rdR, rdE, rdS, leT, leTc, leTd, leF, leFc, leFd, ltT, ltTc, ltTd, ltF, ltFc, ltFd, eqT, eqTc, eqTd, eqF, eqFc, eqFd, m1T, m1F, m1T', m1F', inb_nI, ix_nI, inb_c, ix_c, nI_1, nI_pred, nI_m1, add_nIc, add_cnI, bd_v, reduceCtorEq, eqFcc, m1e0, m1e1, m1l0, m1g0, m2l0, m2g0, Int32.reduceLT, Int32.reduceLE, Int32.reduceAdd, Int32.reduceSub, Int32.reduceMul, eq_self, Bool.false_eq_true]
    exact ok_some ⟨by rw [Nat.zero_add], row, st, cf⟩
theorem r_beg {S : SP} {M : Mem} (hr : RRel S M) : Ok (fX10_begins 80 (sI M 169 0 0)) (fun q => q.1 = nI S.2.1.1 ∧ AtR 0 S.2.1.1 S.2.1.2 q.2 ∧ RRel (emS S) q.2 ∧ RFr M q.2) := by
  have h80 := hr.2.1.1
  refine ok_mono (r_begins (L := S.2.1.1) (most := 80) (f := S.2.1.2) (txR_fr hr.2.1 (rdS (by omega)) (row_n (by omega))) (by omega)) (fun q g => ?_)
  obtain ⟨g1, g2, g3, g4, g5⟩ := g
  rw [show min S.2.1.1 80 = S.2.1.1 by omega] at g2
  have f1 : ∀ a, a ≠ 169 → q.2.1 a = M.1 a := fun a ha => by rw [g5.1 a ha (fun h => h), row_n ha]
  have f2 : ∀ i, ¬ (i = 0 ∨ i = 8 ∨ i = 9 ∨ i = 10 ∨ i = 11) → q.2.1 169 i = M.1 169 i := fun i hi => by rw [g5.2.1 i (by omega), rdS (by omega)]
  have re : q.2.2 = M.2 := by rw [g5.2.2]; rfl
  obtain ⟨h1, h2, h3, h4, h5, h6⟩ := hr
  exact ⟨g1, g2, ⟨⟨h1.1, by rw [f2 3 (by omega)]; exact h1.2.1, fun i hi => by rw [f1 171 (by omega)]; exact h1.2.2.1 i hi, ruR_fr h1.2.2.2 (f1 175 (by omega)) (f2 16 (by omega))⟩, ⟨Nat.zero_le _, g3, fun i hi => absurd hi (Nat.not_lt_zero _)⟩, rwR_fr h3 (f2 1 (by omega)) (by rw [re]), psR_fr h4 (f2 28 (by omega)) (f1 185 (by omega)), kpR_fr h5 (f2 4 (by omega)) (fun a ha => f1 a (by omega)), hR_fr h6 (f2 45 (by omega)) (fun a ha => f1 a (by omega))⟩, fun a ha => ⟨f1 a (by omega), by rw [re]⟩, by rw [re]⟩
theorem ln190 : ln 190 = 6 := by decide
/-- an order of the boats 0 .. n - 1 -/
def Prm (n : Nat) (g : Nat → Nat) : Prop := (∀ i, i < n → g i < n) ∧ ∀ i j, i < n → j < n → g i = g j → i = j
theorem oG_prm {L n : Nat} {f : Nat → Nat} (hn : n ≤ 6) (h : ∀ i, i < n → oG L n f 0 i) : Prm n (fun i => f i - 48) := by
  have lt : ∀ i, i < n → f i - 48 < n := fun i hi => by
    have := (h i hi).2.2.1
    have := (h i hi).2.1
    rw [Nat.zero_add] at *
    omega
  have key : ∀ i j, i < j → j < n → f i - 48 ≠ f j - 48 := by
    intro i j hij hj e
    obtain ⟨y1, y2⟩ := oY_b (L := L) (f := f) (p := 0) hn j (fun k hk => h k (by omega))
    have hb := (h j hj).2.2.2
    have ht := (y2 (f j - 48) (by have := lt j hj; omega)).2 ⟨i, hij, by rw [Nat.zero_add]; exact e⟩
    rw [Nat.zero_add] at hb
    rw [ht] at hb
    cases hb
  refine ⟨lt, fun i j hi hj e => ?_⟩
  by_cases c : i = j
  · exact c
  · rcases Nat.lt_or_gt_of_ne c with c | c
    · exact absurd e (key i j c hj)
    · exact absurd e.symm (key j i c hi)
theorem st_order {M : Mem} {fC fR kC kR : Mem → Option (Int32 × Mem)} (h : Rel M)
    (eC : ∀ M, fC M = (fX9_orderFault M).bind fun q1 => ic (q1.1 < 0) (kC q1.2) (some (-1 - q1.1, q1.2)))
    (eR : ∀ M, fR M = (fX10_begins 80 (sI M 169 0 0)).bind fun q3 => (fX10_readsOrder 190 q3.2).bind fun q5 => ic (q5.1 = 0) (some (-1 - (q5.2.1 169 9), q5.2)) (ic ((q5.2.1 169 10) ≤ (q5.2.1 169 9)) (kR q5.2) (some (-1 - (q5.2.1 169 9), q5.2))))
    (hk : ∀ (S : SP) (g : Nat → Nat), spOK S → Prm S.1.1 g → ∃ (x : Int32) (S' : SP), spOK S' ∧ (∀ M, CRel S M → (∀ i, i < S.1.1 → M.1 142 i = nI (g i)) → Ok (kC M) (fun q => q.1 = x ∧ CRel S' q.2 ∧ CFr M q.2)) ∧ (∀ M1, RRel S M1 → (∀ i, i < S.1.1 → M1.1 190 i = nI (g i)) → Ok (kR M1) (fun q => q.1 = x ∧ RRel S' q.2 ∧ RFr M1 q.2))) : StI fC fR M := by
  obtain ⟨S, hS, hc, hr⟩ := h
  have hn : S.1.1 ≤ 6 := hS.1.1
  have h80 := hc.2.2.1.1
  obtain ⟨K, hK, hall, hend⟩ := or_ex (L := S.2.1.1) (n := S.1.1) (p := 0) (f := S.2.1.2)
  have rd : ∀ (M1 : Mem) (Q : Int32 × Mem → Prop), RRel S M1 → (∀ q : Int32 × Mem, q.1 = (if K = S.1.1 then 1 else 0) → (∀ i, i < K → q.2.1 190 i = nI (S.2.1.2 i - 48)) → q.2.1 169 9 = nI K → q.2.1 169 10 = nI S.2.1.1 → RRel (emS S) q.2 → RFr M1 q.2 → Ok (ic (q.1 = 0) (some (-1 - (q.2.1 169 9), q.2)) (ic ((q.2.1 169 10) ≤ (q.2.1 169 9)) (kR q.2) (some (-1 - (q.2.1 169 9), q.2)))) Q) → Ok (fR M1) Q := by
    intro M1 Q h1 hgo
    rw [eR]
    refine ok_call (r_beg h1) (fun q g => ?_)
    obtain ⟨g1, g2, g3, g4⟩ := g
    refine ok_call (r_readsOrder (p := 0) (a1 := 190) hn (by rw [ln190]; omega) (by rw [ln190]; omega) (by omega) (by omega) g2 g3.1.2.1 hK hall hend) (fun q2 k => ?_)
    obtain ⟨k1, k2, k3, k4⟩ := k
    refine hgo q2 k1 (fun i hi => by rw [k2 i hi, Nat.zero_add]) (by rw [k3.1, Nat.zero_add]) k3.2.1 (rrel_q (l := none) g3 ⟨fun a a1 a2 => k4.1 a a1 (fun e => a2 (by unfold SR; omega)), fun i hi => k4.2.1 i (fun e => hi (by unfold SS; omega)), fun a _ => by rw [k4.2.2], by rw [k4.2.2]⟩ ⟨k4.2.1 1 (by omega), by rw [k4.2.2]⟩) (rfr_tr g4 ⟨fun a ha => ⟨k4.1 a (by omega) (by omega), by rw [k4.2.2]⟩, by rw [k4.2.2]⟩)
  by_cases good : K = S.1.1 ∧ S.2.1.1 ≤ S.1.1
  · obtain ⟨x, S', w1, w2, w3⟩ := hk (emS S) (fun i => S.2.1.2 i - 48) (spOK_emS hS) (oG_prm (L := S.2.1.1) (n := S.1.1) hn (fun i hi => hall i (by omega)))
    refine st_gen (S := S) (S' := S') (x := x) w1 hr ?_ (fun M1 h1 => rd M1 _ h1 (fun q q1 q2 q3 q4 q5 q6 => ?_))
    · rw [eC]
      refine ok_call (c_orderFault hS hc hK hall hend) (fun q g => ?_)
      obtain ⟨g1, g2, g3, g4⟩ := g
      rw [if_pos good] at g1
      rw [g1]
      simp (disch := omega) only [↓reduceIte, ic_t, ic_f, not_true_eq_false, not_false_eq_true, ↓lt_v, rdR, rdE, rdS, leT, leTc, leTd, leF, leFc, leFd, ltT, ltTc, ltTd, ltF, ltFc, ltFd, eqT, eqTc, eqTd, eqF, eqFc, eqFd, m1T, m1F, m1T', m1F', inb_nI, ix_nI, inb_c, ix_c, nI_1, nI_pred, nI_m1, add_nIc, add_cnI, bd_v, reduceCtorEq, eqFcc, m1e0, m1e1, m1l0, m1g0, m2l0, m2g0, Int32.reduceLT, Int32.reduceLE, Int32.reduceAdd, Int32.reduceSub, Int32.reduceMul, eq_self, Bool.false_eq_true]
      exact ok_mono (w2 q.2 g3 (fun i hi => g2 i (by have hi : i < S.1.1 := hi; omega))) (fun r k => ⟨k.1, k.2.1, cfr_tr g4 k.2.2⟩)
    · rw [if_pos good.1] at q1
      have g1 := good.1
      have g2 := good.2
      rw [q1, q3, q4]
      simp (disch := omega) only [↓reduceIte, ic_t, ic_f, not_true_eq_false, not_false_eq_true, ↓lt_v, rdR, rdE, rdS, leT, leTc, leTd, leF, leFc, leFd, ltT, ltTc, ltTd, ltF, ltFc, ltFd, eqT, eqTc, eqTd, eqF, eqFc, eqFd, m1T, m1F, m1T', m1F', inb_nI, ix_nI, inb_c, ix_c, nI_1, nI_pred, nI_m1, add_nIc, add_cnI, bd_v, reduceCtorEq, eqFcc, m1e0, m1e1, m1l0, m1g0, m2l0, m2g0, Int32.reduceLT, Int32.reduceLE, Int32.reduceAdd, Int32.reduceSub, Int32.reduceMul, eq_self, Bool.false_eq_true]
      exact ok_mono (w3 q.2 q5 (fun i hi => q2 i (by have hi : i < S.1.1 := hi; omega))) (fun r k => ⟨k.1, k.2.1, rfr_tr q6 k.2.2⟩)
  · refine st_gen (S := S) (S' := emS S) (x := -1 - nI K) (spOK_emS hS) hr ?_ (fun M1 h1 => rd M1 _ h1 (fun q q1 q2 q3 q4 q5 q6 => ?_))
    · rw [eC]
      refine ok_call (c_orderFault hS hc hK hall hend) (fun q g => ?_)
      obtain ⟨g1, g2, g3, g4⟩ := g
      rw [if_neg good] at g1
      rw [g1]
      simp (disch := omega) only [↓reduceIte, ic_t, ic_f, not_true_eq_false, not_false_eq_true, ↓lt_v, rdR, rdE, rdS, leT, leTc, leTd, leF, leFc, leFd, ltT, ltTc, ltTd, ltF, ltFc, ltFd, eqT, eqTc, eqTd, eqF, eqFc, eqFd, m1T, m1F, m1T', m1F', inb_nI, ix_nI, inb_c, ix_c, nI_1, nI_pred, nI_m1, add_nIc, add_cnI, bd_v, reduceCtorEq, eqFcc, m1e0, m1e1, m1l0, m1g0, m2l0, m2g0, Int32.reduceLT, Int32.reduceLE, Int32.reduceAdd, Int32.reduceSub, Int32.reduceMul, eq_self, Bool.false_eq_true]
      exact ok_some ⟨rfl, g3, g4⟩
    · rw [q1, q3, q4]
      by_cases c : K = S.1.1
      · have : ¬ S.2.1.1 ≤ S.1.1 := fun h => good ⟨c, h⟩
        rw [if_pos c]
        simp (disch := omega) only [↓reduceIte, ic_t, ic_f, not_true_eq_false, not_false_eq_true, ↓lt_v, rdR, rdE, rdS, leT, leTc, leTd, leF, leFc, leFd, ltT, ltTc, ltTd, ltF, ltFc, ltFd, eqT, eqTc, eqTd, eqF, eqFc, eqFd, m1T, m1F, m1T', m1F', inb_nI, ix_nI, inb_c, ix_c, nI_1, nI_pred, nI_m1, add_nIc, add_cnI, bd_v, reduceCtorEq, eqFcc, m1e0, m1e1, m1l0, m1g0, m2l0, m2g0, Int32.reduceLT, Int32.reduceLE, Int32.reduceAdd, Int32.reduceSub, Int32.reduceMul, eq_self, Bool.false_eq_true]
        exact ok_some ⟨rfl, q5, q6⟩
      · rw [if_neg c]
        simp (disch := omega) only [↓reduceIte, ic_t, ic_f, not_true_eq_false, not_false_eq_true, ↓lt_v, rdR, rdE, rdS, leT, leTc, leTd, leF, leFc, leFd, ltT, ltTc, ltTd, ltF, ltFc, ltFd, eqT, eqTc, eqTd, eqF, eqFc, eqFd, m1T, m1F, m1T', m1F', inb_nI, ix_nI, inb_c, ix_c, nI_1, nI_pred, nI_m1, add_nIc, add_cnI, bd_v, reduceCtorEq, eqFcc, m1e0, m1e1, m1l0, m1g0, m2l0, m2g0, Int32.reduceLT, Int32.reduceLE, Int32.reduceAdd, Int32.reduceSub, Int32.reduceMul, eq_self, Bool.false_eq_true]
        exact ok_some ⟨rfl, q5, q6⟩
