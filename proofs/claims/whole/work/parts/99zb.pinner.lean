/-! PURE: reading a rule: brackets, signs ahead -/
theorem bI_f {b : Bool} (h : b = false) : bI b = 0 := by subst h; rfl
theorem bI_t {b : Bool} (h : b = true) : bI b = 1 := by subst h; rfl
theorem one_ne : ¬ ((1 : Int32) = 0) := by decide
theorem p_inner {a0 L p ne : Nat} {f : Nat → Nat} {rc : Nat → Int32 → Mem → Option (Int32 × Mem)} {rcR : Int32 → Mem → Option (Int32 × Mem)} (hR : a0 = 146 ∨ a0 = 150) (hf : ∀ i, i < L → f i < 256) (hp : p < min L 40) (hne : ne ≤ 4) (h40 : f p = 40) (hI : ne < 4 → PSp a0 L f (p + 1) (ne + 1) (rc a0 (nI (ne + 1))) (rcR 0)) : PSp a0 L f p ne (FCa rc a0 (nI ne)) (FRa rcR) := by
  have hnd : isD (f p) = false := by rw [h40]; decide
  have ht0 : tI (f p) = 0 := by rw [h40]; decide
  have clsA : ∀ (M : Mem) (cl : Nat) (b : Bool) (Q : Int32 × Mem → Prop), CSt a0 L f p cl b M → Ok (fX6_readInner rc a0 (nI (ne + 1)) M) Q → Ok (FCa rc a0 (nI ne) M) Q := by
    intro M cl b Q hc h
    have pk := c_peek hc (by omega)
    rw [if_pos hp, h40] at pk
    unfold FCa
    rw [pk, bd_v, ic_pos (show (nI 40, M).1 = 40 from rfl), show (nI 40, M).2 = M from rfl, add_nIc]
    exact h
  have refA : ∀ (s : Mem) (rl : Nat) (Q : Int32 × Mem → Prop), RSt (min L 40) f p rl ne s → Ok (ic (nI ne = 4) (some ((0 : Int32), s)) (((fX10_takes 40 s).bind fun q11 => ic (q11.1 = 0) ((some (0, q11.2))) ((lt (sI q11.2 169 11 ((q11.2.1 169 11) + 1)) fun M14 => (rcR 0 M14).bind fun q16 => ic (q16.1 = 0) ((some (0, q16.2))) (((fX10_takes 41 q16.2).bind fun q19 => ic (q19.1 = 0) ((some (0, q19.2))) ((lt (sI q19.2 169 11 ((q19.2.1 169 11) - 1)) fun M22 => some (1, M22)))))))))) Q → Ok (FRa rcR s) Q := by
    intro s rl Q hs h
    obtain ⟨hA, h17, h11, hr⟩ := hs
    have hdg := r_isDigit hA
    have b0 : bI false = 0 := rfl
    rw [hnd, Bool.and_false, b0] at hdg
    have hto := r_takesOf0 hA
    rw [if_neg (fun q => q.2 ht0)] at hto
    unfold FRa
    rw [hdg, bd_v, ic_pos (show ((0 : Int32), s).1 = 0 from rfl), show ((0 : Int32), s).2 = s from rfl, hto, bd_v, ic_pos (show ((-1 : Int32), s).1 < 0 from m1lt0), show ((-1 : Int32), s).2 = s from rfl, h11]
    exact h
  by_cases c4 : ne = 4
  · refine ⟨false, p, fun _ => 0, false, Nat.le_refl _, by omega, (fun q => by cases q), fun M cl b hc => ?_, fun s rl hs => ?_⟩
    · refine clsA M cl b _ hc ?_
      rw [e_X6_readInner, ic_neg (show ¬ nI (ne + 1) ≤ 4 by rw [show (4 : Int32) = nI 4 from rfl, le_nI (by omega) (by omega)]; omega)]
      exact ok_some ⟨rfl, fr_rfl, cl, b, hc, fun q => by cases q⟩
    · refine refA s rl _ hs ?_
      obtain ⟨hA, h17, h11, hr⟩ := hs
      rw [ic_pos (show nI ne = 4 by rw [c4]; rfl)]
      exact ok_some ⟨rfl, frR_rfl, rl, ne, hA, h17, h11, by omega, fun i hi => rfl, fun q => by cases q⟩
  · obtain ⟨ok1, e1, V1, b1, i1, i2, i3, iC, iR⟩ := hI (by omega)
    have clsB : ∀ (M : Mem) (cl : Nat) (b : Bool) (Q : Int32 × Mem → Prop), CSt a0 L f p cl b M → (∀ r, CPo a0 L f (p + 1) cl b ok1 e1 V1 b1 (sI M a0 6 (nI (p + 1))) r → Ok (ic (r.1 = 0) ((some (0, r.2))) (((fX6_peek a0 r.2).bind fun q7 => ic (q7.1 = 41) ((lt (sI q7.2 a0 6 ((q7.2.1 a0 6) + 1)) fun M10 => some (1, M10))) ((some (0, q7.2)))))) Q) → Ok (FCa rc a0 (nI ne) M) Q := by
      intro M cl b Q hc h
      refine clsA M cl b _ hc ?_
      have h6 := hc.1
      rw [e_X6_readInner, ic_pos (show nI (ne + 1) ≤ 4 by rw [show (4 : Int32) = nI 4 from rfl, le_nI (by omega) (by omega)]; omega), lt_v, h6, add_nIc]
      exact ok_call (iC _ cl b (cst_pos hR hc)) h
    have refB : ∀ (s : Mem) (rl : Nat) (Q : Int32 × Mem → Prop), RSt (min L 40) f p rl ne s → (∀ r, RPo (min L 40) f (p + 1) rl (ne + 1) ok1 e1 V1 (sI (sI s 169 9 (nI (p + 1))) 169 11 (nI (ne + 1))) r → Ok (ic (r.1 = 0) ((some (0, r.2))) (((fX10_takes 41 r.2).bind fun q19 => ic (q19.1 = 0) ((some (0, q19.2))) ((lt (sI q19.2 169 11 ((q19.2.1 169 11) - 1)) fun M22 => some (1, M22)))))) Q) → Ok (FRa rcR s) Q := by
      intro s rl Q hs h
      refine refA s rl _ hs ?_
      obtain ⟨hA, h17, h11, hr⟩ := hs
      have ht := r_takes (c := 40) hA (by omega)
      rw [decide_eq_true ⟨hp, h40⟩, if_pos ⟨hp, h40⟩, show bI true = 1 from rfl] at ht
      have e11 : (sI s 169 9 (nI (p + 1))).1 169 11 = nI ne := by simp (disch := omega) only [↓reduceIte, ic_t, ic_f, not_true_eq_false, not_false_eq_true, ↓lt_v, rdR, rdE, rdS, leT, leTc, leTd, leF, leFc, leFd, ltT, ltTc, ltTd, ltF, ltFc, ltFd, eqT, eqTc, eqTd, eqF, eqFc, eqFd, m1T, m1F, m1T', m1F', inb_nI, ix_nI, inb_c, ix_c, nI_1, nI_pred, nI_m1, add_nIc, add_cnI, bd_v, reduceCtorEq, eqFcc, m1e0, m1e1, m1l0, m1g0, m2l0, m2g0, Int32.reduceLT, Int32.reduceLE, Int32.reduceAdd, Int32.reduceSub, Int32.reduceMul, eq_self, Bool.false_eq_true]; exact h11
      rw [ic_neg (show ¬ nI ne = 4 by rw [show (4 : Int32) = nI 4 from rfl, nI_eq (by omega) (by omega)]; exact c4), show (40 : Int32) = nI 40 from rfl, ht, bd_v, ic_neg (show ¬ ((1 : Int32), sI s 169 9 (nI (p + 1))).1 = 0 from one_ne), lt_v]
      show Ok ((rcR 0 (sI (sI s 169 9 (nI (p + 1))) 169 11 ((sI s 169 9 (nI (p + 1))).1 169 11 + 1))).bind _) _
      rw [e11, add_nIc]
      refine ok_call (iR _ rl ⟨atR_fr (atR_set hA (b := p + 1) (by omega)) (by simp (disch := omega) only [↓reduceIte, ic_t, ic_f, not_true_eq_false, not_false_eq_true, ↓lt_v, rdR, rdE, rdS, leT, leTc, leTd, leF, leFc, leFd, ltT, ltTc, ltTd, ltF, ltFc, ltFd, eqT, eqTc, eqTd, eqF, eqFc, eqFd, m1T, m1F, m1T', m1F', inb_nI, ix_nI, inb_c, ix_c, nI_1, nI_pred, nI_m1, add_nIc, add_cnI, bd_v, reduceCtorEq, eqFcc, m1e0, m1e1, m1l0, m1g0, m2l0, m2g0, Int32.reduceLT, Int32.reduceLE, Int32.reduceAdd, Int32.reduceSub, Int32.reduceMul, eq_self, Bool.false_eq_true]) (by simp (disch := omega) only [↓reduceIte, ic_t, ic_f, not_true_eq_false, not_false_eq_true, ↓lt_v, rdR, rdE, rdS, leT, leTc, leTd, leF, leFc, leFd, ltT, ltTc, ltTd, ltF, ltFc, ltFd, eqT, eqTc, eqTd, eqF, eqFc, eqFd, m1T, m1F, m1T', m1F', inb_nI, ix_nI, inb_c, ix_c, nI_1, nI_pred, nI_m1, add_nIc, add_cnI, bd_v, reduceCtorEq, eqFcc, m1e0, m1e1, m1l0, m1g0, m2l0, m2g0, Int32.reduceLT, Int32.reduceLE, Int32.reduceAdd, Int32.reduceSub, Int32.reduceMul, eq_self, Bool.false_eq_true]) (by simp (disch := omega) only [row_n]), by simp (disch := omega) only [↓reduceIte, ic_t, ic_f, not_true_eq_false, not_false_eq_true, ↓lt_v, rdR, rdE, rdS, leT, leTc, leTd, leF, leFc, leFd, ltT, ltTc, ltTd, ltF, ltFc, ltFd, eqT, eqTc, eqTd, eqF, eqFc, eqFd, m1T, m1F, m1T', m1F', inb_nI, ix_nI, inb_c, ix_c, nI_1, nI_pred, nI_m1, add_nIc, add_cnI, bd_v, reduceCtorEq, eqFcc, m1e0, m1e1, m1l0, m1g0, m2l0, m2g0, Int32.reduceLT, Int32.reduceLE, Int32.reduceAdd, Int32.reduceSub, Int32.reduceMul, eq_self, Bool.false_eq_true]; exact h17, by simp (disch := omega) only [↓reduceIte, ic_t, ic_f, not_true_eq_false, not_false_eq_true, ↓lt_v, rdR, rdE, rdS, leT, leTc, leTd, leF, leFc, leFd, ltT, ltTc, ltTd, ltF, ltFc, ltFd, eqT, eqTc, eqTd, eqF, eqFc, eqFd, m1T, m1F, m1T', m1F', inb_nI, ix_nI, inb_c, ix_c, nI_1, nI_pred, nI_m1, add_nIc, add_cnI, bd_v, reduceCtorEq, eqFcc, m1e0, m1e1, m1l0, m1g0, m2l0, m2g0, Int32.reduceLT, Int32.reduceLE, Int32.reduceAdd, Int32.reduceSub, Int32.reduceMul, eq_self, Bool.false_eq_true], by omega⟩) h
    have fS : ∀ s : Mem, FrR (fun a => a = 176) S3 s (sI (sI s 169 9 (nI (p + 1))) 169 11 (nI (ne + 1))) := fun s => frR_trans (frR_sI (by omega) (by unfold S3; omega)) (frR_sI (by omega) (by unfold S3; omega))
    have fC : ∀ M : Mem, Fr (fun a => a = a0 ∨ a = a0 + 1) M (sI M a0 6 (nI (p + 1))) := fun M => fr_sI (Or.inl rfl)
    cases ok1
    · refine ⟨false, e1, fun _ => 0, false, by omega, i2, (fun q => by cases q), fun M cl b hc => ?_, fun s rl hs => ?_⟩
      · refine clsB M cl b _ hc (fun r h => ?_)
        obtain ⟨h1, h2, cl', bb, h3, _⟩ := h
        rw [h1, ic_pos (show bI false = 0 from rfl)]
        exact ok_some ⟨rfl, fr_trans (fC M) h2, cl', bb, h3, fun q => by cases q⟩
      · refine refB s rl _ hs (fun r h => ?_)
        obtain ⟨h1, h2, rl', ne', h3, h4, h5, h6, h7, _⟩ := h
        rw [h1, ic_pos (show bI false = 0 from rfl)]
        exact ok_some ⟨rfl, frR_trans (fS s) h2, rl', ne', h3, h4, h5, by omega, fun i hi => by rw [h7 i hi]; simp (disch := omega) only [↓reduceIte, ic_t, ic_f, not_true_eq_false, not_false_eq_true, ↓lt_v, rdR, rdE, rdS, leT, leTc, leTd, leF, leFc, leFd, ltT, ltTc, ltTd, ltF, ltFc, ltFd, eqT, eqTc, eqTd, eqF, eqFc, eqFd, m1T, m1F, m1T', m1F', inb_nI, ix_nI, inb_c, ix_c, nI_1, nI_pred, nI_m1, add_nIc, add_cnI, bd_v, reduceCtorEq, eqFcc, m1e0, m1e1, m1l0, m1g0, m2l0, m2g0, Int32.reduceLT, Int32.reduceLE, Int32.reduceAdd, Int32.reduceSub, Int32.reduceMul, eq_self, Bool.false_eq_true], fun q => by cases q⟩
    · obtain ⟨v1, v2⟩ := i3 rfl
      by_cases c41 : e1 < min L 40 ∧ f e1 = 41
      · refine ⟨true, e1 + 1, V1, b1, by omega, by omega, fun _ => ⟨v1, by omega⟩, fun M cl b hc => ?_, fun s rl hs => ?_⟩
        · refine clsB M cl b _ hc (fun r h => ?_)
          obtain ⟨h1, h2, cl', bb, h3, h4⟩ := h
          have pk := c_peek h3 (by omega)
          rw [if_pos c41.1, c41.2] at pk
          have h6 := h3.1
          rw [h1, ic_neg (show ¬ bI true = 0 from one_ne), pk, bd_v, ic_pos (show (nI 41, r.2).1 = 41 from rfl), lt_v]
          show Ok (some (1, sI r.2 a0 6 (r.2.1 a0 6 + 1))) _
          rw [h6, add_nIc]
          refine ok_some ⟨rfl, fr_trans (fr_trans (fC M) h2) (fr_sI (Or.inl rfl)), cl', bb, cst_pos hR h3, fun _ hcl => ?_⟩
          obtain ⟨k1, k2, k3, k4⟩ := h4 rfl (by omega)
          have er : (sI r.2 a0 6 (nI (e1 + 1))).1 (a0 + 1) = r.2.1 (a0 + 1) := row_n (by omega)
          refine ⟨k1, by omega, fun i hi => ?_, ?_⟩
          · show (sI r.2 a0 6 (nI (e1 + 1))).1 (a0 + 1) i = _
            rw [er, k3 i hi, row_n (by omega)]
          · show CSeg a0 ((sI r.2 a0 6 (nI (e1 + 1))).1 (a0 + 1)) cl cl' V1
            rw [er]; exact k4
        · refine refB s rl _ hs (fun r h => ?_)
          obtain ⟨h1, h2, rl', ne', h3, h4, h5, h6, h7, h8⟩ := h
          obtain ⟨k1, k2⟩ := h8 rfl
          have ht := r_takes (c := 41) h3 (by omega)
          rw [decide_eq_true c41, if_pos c41, show bI true = 1 from rfl] at ht
          have e11 : (sI r.2 169 9 (nI (e1 + 1))).1 169 11 = nI (ne + 1) := by simp (disch := omega) only [↓reduceIte, ic_t, ic_f, not_true_eq_false, not_false_eq_true, ↓lt_v, rdR, rdE, rdS, leT, leTc, leTd, leF, leFc, leFd, ltT, ltTc, ltTd, ltF, ltFc, ltFd, eqT, eqTc, eqTd, eqF, eqFc, eqFd, m1T, m1F, m1T', m1F', inb_nI, ix_nI, inb_c, ix_c, nI_1, nI_pred, nI_m1, add_nIc, add_cnI, bd_v, reduceCtorEq, eqFcc, m1e0, m1e1, m1l0, m1g0, m2l0, m2g0, Int32.reduceLT, Int32.reduceLE, Int32.reduceAdd, Int32.reduceSub, Int32.reduceMul, eq_self, Bool.false_eq_true]; rw [h5, k1]
          rw [h1, ic_neg (show ¬ bI true = 0 from one_ne), show (41 : Int32) = nI 41 from rfl, ht, bd_v, ic_neg (show ¬ ((1 : Int32), sI r.2 169 9 (nI (e1 + 1))).1 = 0 from one_ne), lt_v]
          show Ok (some (1, sI (sI r.2 169 9 (nI (e1 + 1))) 169 11 ((sI r.2 169 9 (nI (e1 + 1))).1 169 11 - 1))) _
          rw [e11, nI_pred]
          refine ok_some ⟨rfl, frR_trans (frR_trans (fS s) h2) (frR_trans (frR_sI (by omega) (by unfold S3; omega)) (frR_sI (by omega) (by unfold S3; omega))), rl', ne, ?_, ?_, ?_, by omega, fun i hi => ?_, fun _ => ⟨rfl, ?_⟩⟩
          · exact atR_fr (atR_set h3 (b := e1 + 1) (by omega)) (by simp (disch := omega) only [↓reduceIte, ic_t, ic_f, not_true_eq_false, not_false_eq_true, ↓lt_v, rdR, rdE, rdS, leT, leTc, leTd, leF, leFc, leFd, ltT, ltTc, ltTd, ltF, ltFc, ltFd, eqT, eqTc, eqTd, eqF, eqFc, eqFd, m1T, m1F, m1T', m1F', inb_nI, ix_nI, inb_c, ix_c, nI_1, nI_pred, nI_m1, add_nIc, add_cnI, bd_v, reduceCtorEq, eqFcc, m1e0, m1e1, m1l0, m1g0, m2l0, m2g0, Int32.reduceLT, Int32.reduceLE, Int32.reduceAdd, Int32.reduceSub, Int32.reduceMul, eq_self, Bool.false_eq_true]) (by simp (disch := omega) only [↓reduceIte, ic_t, ic_f, not_true_eq_false, not_false_eq_true, ↓lt_v, rdR, rdE, rdS, leT, leTc, leTd, leF, leFc, leFd, ltT, ltTc, ltTd, ltF, ltFc, ltFd, eqT, eqTc, eqTd, eqF, eqFc, eqFd, m1T, m1F, m1T', m1F', inb_nI, ix_nI, inb_c, ix_c, nI_1, nI_pred, nI_m1, add_nIc, add_cnI, bd_v, reduceCtorEq, eqFcc, m1e0, m1e1, m1l0, m1g0, m2l0, m2g0, Int32.reduceLT, Int32.reduceLE, Int32.reduceAdd, Int32.reduceSub, Int32.reduceMul, eq_self, Bool.false_eq_true]) (by simp (disch := omega) only [row_n])
          · simp (disch := omega) only [↓reduceIte, ic_t, ic_f, not_true_eq_false, not_false_eq_true, ↓lt_v, rdR, rdE, rdS, leT, leTc, leTd, leF, leFc, leFd, ltT, ltTc, ltTd, ltF, ltFc, ltFd, eqT, eqTc, eqTd, eqF, eqFc, eqFd, m1T, m1F, m1T', m1F', inb_nI, ix_nI, inb_c, ix_c, nI_1, nI_pred, nI_m1, add_nIc, add_cnI, bd_v, reduceCtorEq, eqFcc, m1e0, m1e1, m1l0, m1g0, m2l0, m2g0, Int32.reduceLT, Int32.reduceLE, Int32.reduceAdd, Int32.reduceSub, Int32.reduceMul, eq_self, Bool.false_eq_true]; exact h4
          · simp (disch := omega) only [↓reduceIte, ic_t, ic_f, not_true_eq_false, not_false_eq_true, ↓lt_v, rdR, rdE, rdS, leT, leTc, leTd, leF, leFc, leFd, ltT, ltTc, ltTd, ltF, ltFc, ltFd, eqT, eqTc, eqTd, eqF, eqFc, eqFd, m1T, m1F, m1T', m1F', inb_nI, ix_nI, inb_c, ix_c, nI_1, nI_pred, nI_m1, add_nIc, add_cnI, bd_v, reduceCtorEq, eqFcc, m1e0, m1e1, m1l0, m1g0, m2l0, m2g0, Int32.reduceLT, Int32.reduceLE, Int32.reduceAdd, Int32.reduceSub, Int32.reduceMul, eq_self, Bool.false_eq_true]
          · simp (disch := omega) only [↓reduceIte, ic_t, ic_f, not_true_eq_false, not_false_eq_true, ↓lt_v, rdR, rdE, rdS, leT, leTc, leTd, leF, leFc, leFd, ltT, ltTc, ltTd, ltF, ltFc, ltFd, eqT, eqTc, eqTd, eqF, eqFc, eqFd, m1T, m1F, m1T', m1F', inb_nI, ix_nI, inb_c, ix_c, nI_1, nI_pred, nI_m1, add_nIc, add_cnI, bd_v, reduceCtorEq, eqFcc, m1e0, m1e1, m1l0, m1g0, m2l0, m2g0, Int32.reduceLT, Int32.reduceLE, Int32.reduceAdd, Int32.reduceSub, Int32.reduceMul, eq_self, Bool.false_eq_true]; rw [h7 i hi]; simp (disch := omega) only [↓reduceIte, ic_t, ic_f, not_true_eq_false, not_false_eq_true, ↓lt_v, rdR, rdE, rdS, leT, leTc, leTd, leF, leFc, leFd, ltT, ltTc, ltTd, ltF, ltFc, ltFd, eqT, eqTc, eqTd, eqF, eqFc, eqFd, m1T, m1F, m1T', m1F', inb_nI, ix_nI, inb_c, ix_c, nI_1, nI_pred, nI_m1, add_nIc, add_cnI, bd_v, reduceCtorEq, eqFcc, m1e0, m1e1, m1l0, m1g0, m2l0, m2g0, Int32.reduceLT, Int32.reduceLE, Int32.reduceAdd, Int32.reduceSub, Int32.reduceMul, eq_self, Bool.false_eq_true]
          · show RSeg ((sI (sI r.2 169 9 (nI (e1 + 1))) 169 11 (nI ne)).1 176) rl rl' V1
            rw [row_n (by omega), row_n (by omega)]; exact k2
      · refine ⟨false, e1, fun _ => 0, false, by omega, i2, (fun q => by cases q), fun M cl b hc => ?_, fun s rl hs => ?_⟩
        · refine clsB M cl b _ hc (fun r h => ?_)
          obtain ⟨h1, h2, cl', bb, h3, _⟩ := h
          have pk := c_peek h3 (by omega)
          have n41 : ¬ (if e1 < min L 40 then nI (f e1) else -1) = (41 : Int32) := by
            by_cases c : e1 < min L 40
            · rw [if_pos c, show (41 : Int32) = nI 41 from rfl, nI_eq (by have := hf e1 (by omega); omega) (by omega)]
              exact fun q => c41 ⟨c, q⟩
            · rw [if_neg c]; decide
          rw [h1, ic_neg (show ¬ bI true = 0 from one_ne), pk, bd_v, ic_neg n41]
          exact ok_some ⟨rfl, fr_trans (fC M) h2, cl', bb, h3, fun q => by cases q⟩
        · refine refB s rl _ hs (fun r h => ?_)
          obtain ⟨h1, h2, rl', ne', h3, h4, h5, h6, h7, _⟩ := h
          have ht := r_takes (c := 41) h3 (by omega)
          rw [decide_eq_false c41, if_neg c41, show bI false = 0 from rfl] at ht
          rw [h1, ic_neg (show ¬ bI true = 0 from one_ne), show (41 : Int32) = nI 41 from rfl, ht, bd_v, ic_pos (show ((0 : Int32), sI r.2 169 9 (nI (e1 + 0))).1 = 0 from rfl)]
          exact ok_some ⟨rfl, frR_trans (frR_trans (fS s) h2) (frR_sI (by omega) (by unfold S3; omega)), rl', ne', atR_set h3 (b := e1 + 0) (by omega), by simp (disch := omega) only [↓reduceIte, ic_t, ic_f, not_true_eq_false, not_false_eq_true, ↓lt_v, rdR, rdE, rdS, leT, leTc, leTd, leF, leFc, leFd, ltT, ltTc, ltTd, ltF, ltFc, ltFd, eqT, eqTc, eqTd, eqF, eqFc, eqFd, m1T, m1F, m1T', m1F', inb_nI, ix_nI, inb_c, ix_c, nI_1, nI_pred, nI_m1, add_nIc, add_cnI, bd_v, reduceCtorEq, eqFcc, m1e0, m1e1, m1l0, m1g0, m2l0, m2g0, Int32.reduceLT, Int32.reduceLE, Int32.reduceAdd, Int32.reduceSub, Int32.reduceMul, eq_self, Bool.false_eq_true]; exact h4, by simp (disch := omega) only [↓reduceIte, ic_t, ic_f, not_true_eq_false, not_false_eq_true, ↓lt_v, rdR, rdE, rdS, leT, leTc, leTd, leF, leFc, leFd, ltT, ltTc, ltTd, ltF, ltFc, ltFd, eqT, eqTc, eqTd, eqF, eqFc, eqFd, m1T, m1F, m1T', m1F', inb_nI, ix_nI, inb_c, ix_c, nI_1, nI_pred, nI_m1, add_nIc, add_cnI, bd_v, reduceCtorEq, eqFcc, m1e0, m1e1, m1l0, m1g0, m2l0, m2g0, Int32.reduceLT, Int32.reduceLE, Int32.reduceAdd, Int32.reduceSub, Int32.reduceMul, eq_self, Bool.false_eq_true]; exact h5, by omega, fun i hi => by simp (disch := omega) only [↓reduceIte, ic_t, ic_f, not_true_eq_false, not_false_eq_true, ↓lt_v, rdR, rdE, rdS, leT, leTc, leTd, leF, leFc, leFd, ltT, ltTc, ltTd, ltF, ltFc, ltFd, eqT, eqTc, eqTd, eqF, eqFc, eqFd, m1T, m1F, m1T', m1F', inb_nI, ix_nI, inb_c, ix_c, nI_1, nI_pred, nI_m1, add_nIc, add_cnI, bd_v, reduceCtorEq, eqFcc, m1e0, m1e1, m1l0, m1g0, m2l0, m2g0, Int32.reduceLT, Int32.reduceLE, Int32.reduceAdd, Int32.reduceSub, Int32.reduceMul, eq_self, Bool.false_eq_true]; rw [h7 i hi]; simp (disch := omega) only [↓reduceIte, ic_t, ic_f, not_true_eq_false, not_false_eq_true, ↓lt_v, rdR, rdE, rdS, leT, leTc, leTd, leF, leFc, leFd, ltT, ltTc, ltTd, ltF, ltFc, ltFd, eqT, eqTc, eqTd, eqF, eqFc, eqFd, m1T, m1F, m1T', m1F', inb_nI, ix_nI, inb_c, ix_c, nI_1, nI_pred, nI_m1, add_nIc, add_cnI, bd_v, reduceCtorEq, eqFcc, m1e0, m1e1, m1l0, m1g0, m2l0, m2g0, Int32.reduceLT, Int32.reduceLE, Int32.reduceAdd, Int32.reduceSub, Int32.reduceMul, eq_self, Bool.false_eq_true], fun q => by cases q⟩
theorem p_atom {a0 L p ne : Nat} {f : Nat → Nat} {rc : Nat → Int32 → Mem → Option (Int32 × Mem)} {rcR : Int32 → Mem → Option (Int32 × Mem)} (hR : a0 = 146 ∨ a0 = 150) (hf : ∀ i, i < L → f i < 256) (hp : p ≤ min L 40) (hne : ne ≤ 4) (hI : ne < 4 → ∀ p', p' ≤ min L 40 → PSp a0 L f p' (ne + 1) (rc a0 (nI (ne + 1))) (rcR 0)) : PSp a0 L f p ne (FCa rc a0 (nI ne)) (FRa rcR) := by
  by_cases c : p < min L 40
  · cases hd : isD (f p)
    · by_cases ht : tI (f p) = 0
      · by_cases h40 : f p = 40
        · exact p_inner hR hf c hne h40 (fun q => hI q (p + 1) (by omega))
        · exact p_fail hR hf hp hne (fun _ => ⟨hd, ht, h40⟩)
      · exact p_letter hR hf c ht
    · exact p_number hR hf c hd
  · exact p_fail hR hf hp hne (fun q => absurd q c)
