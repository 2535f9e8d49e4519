/-! PURE: reading a rule: a thing, a number, a piece in brackets -/
def FCa (rc : Nat → Int32 → Mem → Option (Int32 × Mem)) (a0 : Nat) (x1 : Int32) (M : Mem) : Option (Int32 × Mem) := (fX6_peek a0 M).bind fun q14 => ic (q14.1 = 40) (fX6_readInner rc a0 (x1 + 1) q14.2) (fX6_readThing a0 q14.2)
def FRa (rc : Int32 → Mem → Option (Int32 × Mem)) (M : Mem) : Option (Int32 × Mem) := (fX10_isDigit M).bind fun q4 => ic (q4.1 = 0) (((fX10_takesOf 0 q4.2).bind fun q7 => ic (q7.1 < 0) ((ic ((q7.2.1 169 11) = 4) ((some (0, q7.2))) (((fX10_takes 40 q7.2).bind fun q11 => ic (q11.1 = 0) ((some (0, q11.2))) ((lt (sI q11.2 169 11 ((q11.2.1 169 11) + 1)) fun M14 => (rc 0 M14).bind fun q16 => ic (q16.1 = 0) ((some (0, q16.2))) (((fX10_takes 41 q16.2).bind fun q19 => ic (q19.1 = 0) ((some (0, q19.2))) ((lt (sI q19.2 169 11 ((q19.2.1 169 11) - 1)) fun M22 => some (1, M22))))))))))) (((fX10_codes (1000 + q7.1) q7.2).bind fun q24 => some (1, q24))))) (((fX10_number 3 q4.2).bind fun q26 => (fX10_codes q26.1 q26.2).bind fun q28 => some (1, q28)))
theorem p_number {a0 L p ne : Nat} {f : Nat → Nat} {rc : Nat → Int32 → Mem → Option (Int32 × Mem)} {rcR : Int32 → Mem → Option (Int32 × Mem)} (hR : a0 = 146 ∨ a0 = 150) (hf : ∀ i, i < L → f i < 256) (hp : p < min L 40) (hd : isD (f p) = true) : PSp a0 L f p ne (FCa rc a0 (nI ne)) (FRa rcR) := by
  obtain ⟨e, x', e1, e2, e3, e4, e5, hC, hN⟩ := p_num (L := L) hR hf 3 0 p 0 (by omega) (by decide) (by omega)
  have hpe := e4 hp (by omega) hd
  have hc256 := hf p (by omega)
  have hdd := (pk_isD hc256).1 hd
  have t0 : tI (f p) = 0 := by
    unfold tI
    rw [if_neg (by omega), if_neg (by omega), if_neg (by omega), if_neg (by omega), if_neg (by omega), if_neg (by omega), if_neg (by omega)]
  have hFU : 2000 < FU := FU_big
  refine ⟨true, e, fun _ => nI x', false, e1, e2, fun _ => ⟨⟨fun _ _ _ _ _ _ _ => rfl, fun _ _ _ => rfl⟩, hpe⟩, fun M cl b hc => ?_, fun s rl hs => ?_⟩
  · have pk := c_peek hc (by omega)
    rw [if_pos hp] at pk
    have th := c_thingOf (M := M) hc256
    rw [t0] at th
    show Ok (FCa rc a0 (nI ne) M) _
    unfold FCa
    simp (disch := omega) only [↓reduceIte, ic_t, ic_f, not_true_eq_false, not_false_eq_true, ↓lt_v, rdR, rdE, rdS, leT, leTc, leTd, leF, leFc, leFd, ltT, ltTc, ltTd, ltF, ltFc, ltFd, eqT, eqTc, eqTd, eqF, eqFc, eqFd, m1T, m1F, m1T', m1F', inb_nI, ix_nI, inb_c, ix_c, nI_1, nI_pred, nI_m1, add_nIc, add_cnI, bd_v, reduceCtorEq, eqFcc, m1e0, m1e1, m1l0, m1g0, m2l0, m2g0, Int32.reduceLT, Int32.reduceLE, Int32.reduceAdd, Int32.reduceSub, Int32.reduceMul, eq_self, Bool.false_eq_true, pk]
    rw [e_X6_readThing, pk]
    simp (disch := omega) only [↓reduceIte, ic_t, ic_f, not_true_eq_false, not_false_eq_true, ↓lt_v, rdR, rdE, rdS, leT, leTc, leTd, leF, leFc, leFd, ltT, ltTc, ltTd, ltF, ltFc, ltFd, eqT, eqTc, eqTd, eqF, eqFc, eqFd, m1T, m1F, m1T', m1F', inb_nI, ix_nI, inb_c, ix_c, nI_1, nI_pred, nI_m1, add_nIc, add_cnI, bd_v, reduceCtorEq, eqFcc, m1e0, m1e1, m1l0, m1g0, m2l0, m2g0, Int32.reduceLT, Int32.reduceLE, Int32.reduceAdd, Int32.reduceSub, Int32.reduceMul, eq_self, Bool.false_eq_true, th]
    generalize FU = fu1 at hFU ⊢
    refine hC M cl b fu1 _ (by omega) hc (fun M' m1 m2 => ?_)
    rw [e_X6_readThing_125]
    refine ok_call (c_emit hR m1) (fun M2 g => ?_)
    obtain ⟨g1, cl', g2, g3⟩ := g
    simp (disch := omega) only [↓reduceIte, ic_t, ic_f, not_true_eq_false, not_false_eq_true, ↓lt_v, rdR, rdE, rdS, leT, leTc, leTd, leF, leFc, leFd, ltT, ltTc, ltTd, ltF, ltFc, ltFd, eqT, eqTc, eqTd, eqF, eqFc, eqFd, m1T, m1F, m1T', m1F', inb_nI, ix_nI, inb_c, ix_c, nI_1, nI_pred, nI_m1, add_nIc, add_cnI, bd_v, reduceCtorEq, eqFcc, m1e0, m1e1, m1l0, m1g0, m2l0, m2g0, Int32.reduceLT, Int32.reduceLE, Int32.reduceAdd, Int32.reduceSub, Int32.reduceMul, eq_self, Bool.false_eq_true]
    refine ok_some ⟨rfl, fr_trans (fr_sub m2 (fun a ha => Or.inl ha)) g1, cl', b, g2, fun _ hcl => ?_⟩
    obtain ⟨k1, k2, k3⟩ := g3 (by omega)
    refine ⟨by rw [Bool.or_false], by omega, fun i hi => by rw [k3 i hi, m2.1 (a0 + 1) (by omega)], ?_⟩
    rw [k1]
    exact cseg_num e3 k2
  · obtain ⟨hA, h17, h11, hr⟩ := hs
    have hdg := r_isDigit hA
    rw [decide_eq_true hp, hd] at hdg
    have b1 : bI (true && true) = 1 := rfl
    rw [b1] at hdg
    show Ok (FRa rcR s) _
    unfold FRa
    simp (disch := omega) only [↓reduceIte, ic_t, ic_f, not_true_eq_false, not_false_eq_true, ↓lt_v, rdR, rdE, rdS, leT, leTc, leTd, leF, leFc, leFd, ltT, ltTc, ltTd, ltF, ltFc, ltFd, eqT, eqTc, eqTd, eqF, eqFc, eqFd, m1T, m1F, m1T', m1F', inb_nI, ix_nI, inb_c, ix_c, nI_1, nI_pred, nI_m1, add_nIc, add_cnI, bd_v, reduceCtorEq, eqFcc, m1e0, m1e1, m1l0, m1g0, m2l0, m2g0, Int32.reduceLT, Int32.reduceLE, Int32.reduceAdd, Int32.reduceSub, Int32.reduceMul, eq_self, Bool.false_eq_true, hdg]
    rw [e_X10_number]
    simp (disch := omega) only [↓reduceIte, ic_t, ic_f, not_true_eq_false, not_false_eq_true, ↓lt_v, rdR, rdE, rdS, leT, leTc, leTd, leF, leFc, leFd, ltT, ltTc, ltTd, ltF, ltFc, ltFd, eqT, eqTc, eqTd, eqF, eqFc, eqFd, m1T, m1F, m1T', m1F', inb_nI, ix_nI, inb_c, ix_c, nI_1, nI_pred, nI_m1, add_nIc, add_cnI, bd_v, reduceCtorEq, eqFcc, m1e0, m1e1, m1l0, m1g0, m2l0, m2g0, Int32.reduceLT, Int32.reduceLE, Int32.reduceAdd, Int32.reduceSub, Int32.reduceMul, eq_self, Bool.false_eq_true, hdg]
    refine ok_call (hN s FU (by omega) hA) (fun w g => ?_)
    obtain ⟨g1, g2, g3⟩ := g
    rw [g1]
    have w17 : w.2.1 169 17 = nI rl := by rw [g3.2.1 17 (by omega)]; exact h17
    have w11 : w.2.1 169 11 = nI ne := by rw [g3.2.1 11 (by omega)]; exact h11
    refine ok_call (r_codes g2 w17 w11 (by omega)) (fun s2 k => ?_)
    obtain ⟨k1, k2, k3, k4, k5, k6⟩ := k
    refine ok_some ⟨rfl, frR_trans (frR_sub g3 (fun a _ ha => ha.elim) (fun i hi => by unfold S3; omega)) k1, rl + 1, ne, k2, k3, k4, by omega, fun i hi => by rw [k6 i hi, g3.1 176 (by omega) (fun q => q)], fun _ => ⟨rfl, rseg_num e3 k5⟩⟩
theorem ng_f : ∀ k, k < 7 → (-1 - (nI k) : Int32) = -1 - nI k := fun _ _ => rfl
theorem p_letter {a0 L p ne : Nat} {f : Nat → Nat} {rc : Nat → Int32 → Mem → Option (Int32 × Mem)} {rcR : Int32 → Mem → Option (Int32 × Mem)} (hR : a0 = 146 ∨ a0 = 150) (hf : ∀ i, i < L → f i < 256) (hp : p < min L 40) (ht : tI (f p) ≠ 0) : PSp a0 L f p ne (FCa rc a0 (nI ne)) (FRa rcR) := by
  have hc256 := hf p (by omega)
  have t7 := tI_le (c := f p)
  have hlow : 98 ≤ f p := by
    by_cases c : 98 ≤ f p
    · exact c
    · exfalso
      apply ht
      unfold tI
      rw [if_neg (by omega), if_neg (by omega), if_neg (by omega), if_neg (by omega), if_neg (by omega), if_neg (by omega), if_neg (by omega)]
  have hnd : isD (f p) = false := by
    cases h : isD (f p)
    · rfl
    · have := (pk_isD hc256).1 h; omega
  obtain ⟨k, hk⟩ : ∃ k, tI (f p) = k + 1 := ⟨tI (f p) - 1, by omega⟩
  refine ⟨true, p + 1, fun th => th k, decide (k = 2 ∨ k = 4 ∨ k = 5), by omega, by omega, fun _ => ⟨⟨fun hb th th' h0 h1 h3 h6 => ?_, fun th th' h => h k (by omega)⟩, by omega⟩, fun M cl b hc => ?_, fun s rl hs => ?_⟩
  · have := of_decide_eq_false hb
    rcases (show k = 0 ∨ k = 1 ∨ k = 3 ∨ k = 6 by omega) with e | e | e | e <;> subst e <;> assumption
  · have pk := c_peek hc (by omega)
    rw [if_pos hp] at pk
    have th := c_thingOf (M := M) hc256
    rw [hk, nI_pred] at th
    show Ok (FCa rc a0 (nI ne) M) _
    unfold FCa
    simp (disch := omega) only [↓reduceIte, ic_t, ic_f, not_true_eq_false, not_false_eq_true, ↓lt_v, rdR, rdE, rdS, leT, leTc, leTd, leF, leFc, leFd, ltT, ltTc, ltTd, ltF, ltFc, ltFd, eqT, eqTc, eqTd, eqF, eqFc, eqFd, m1T, m1F, m1T', m1F', inb_nI, ix_nI, inb_c, ix_c, nI_1, nI_pred, nI_m1, add_nIc, add_cnI, bd_v, reduceCtorEq, eqFcc, m1e0, m1e1, m1l0, m1g0, m2l0, m2g0, Int32.reduceLT, Int32.reduceLE, Int32.reduceAdd, Int32.reduceSub, Int32.reduceMul, eq_self, Bool.false_eq_true, pk]
    rw [e_X6_readThing, pk]
    simp (disch := omega) only [↓reduceIte, ic_t, ic_f, not_true_eq_false, not_false_eq_true, ↓lt_v, rdR, rdE, rdS, leT, leTc, leTd, leF, leFc, leFd, ltT, ltTc, ltTd, ltF, ltFc, ltFd, eqT, eqTc, eqTd, eqF, eqFc, eqFd, m1T, m1F, m1T', m1F', inb_nI, ix_nI, inb_c, ix_c, nI_1, nI_pred, nI_m1, add_nIc, add_cnI, bd_v, reduceCtorEq, eqFcc, m1e0, m1e1, m1l0, m1g0, m2l0, m2g0, Int32.reduceLT, Int32.reduceLE, Int32.reduceAdd, Int32.reduceSub, Int32.reduceMul, eq_self, Bool.false_eq_true, th]
    refine ok_call (c_emit hR hc) (fun M2 g => ?_)
    obtain ⟨g1, cl', g2, g3⟩ := g
    obtain ⟨h1, h2, h3, h4, h5⟩ := g2
    have fin : ∀ (bb : Bool) (M3 : Mem), bb = (b || decide (k = 2 ∨ k = 4 ∨ k = 5)) → M3 = sI (sI M2 a0 2 (bI bb)) a0 6 (nI (p + 1)) → Ok (some ((1 : Int32), M3)) (CPo a0 L f p cl b true (p + 1) (fun th => th k) (decide (k = 2 ∨ k = 4 ∨ k = 5)) M) := by
      intro bb M3 hbb hM3
      subst hM3
      refine ok_some ⟨rfl, fr_trans g1 (fr_trans (fr_sI (by omega)) (fr_sI (by omega))), cl', bb, ⟨by simp (disch := omega) only [↓reduceIte, ic_t, ic_f, not_true_eq_false, not_false_eq_true, ↓lt_v, rdR, rdE, rdS, leT, leTc, leTd, leF, leFc, leFd, ltT, ltTc, ltTd, ltF, ltFc, ltFd, eqT, eqTc, eqTd, eqF, eqFc, eqFd, m1T, m1F, m1T', m1F', inb_nI, ix_nI, inb_c, ix_c, nI_1, nI_pred, nI_m1, add_nIc, add_cnI, bd_v, reduceCtorEq, eqFcc, m1e0, m1e1, m1l0, m1g0, m2l0, m2g0, Int32.reduceLT, Int32.reduceLE, Int32.reduceAdd, Int32.reduceSub, Int32.reduceMul, eq_self, Bool.false_eq_true], by simp (disch := omega) only [↓reduceIte, ic_t, ic_f, not_true_eq_false, not_false_eq_true, ↓lt_v, rdR, rdE, rdS, leT, leTc, leTd, leF, leFc, leFd, ltT, ltTc, ltTd, ltF, ltFc, ltFd, eqT, eqTc, eqTd, eqF, eqFc, eqFd, m1T, m1F, m1T', m1F', inb_nI, ix_nI, inb_c, ix_c, nI_1, nI_pred, nI_m1, add_nIc, add_cnI, bd_v, reduceCtorEq, eqFcc, m1e0, m1e1, m1l0, m1g0, m2l0, m2g0, Int32.reduceLT, Int32.reduceLE, Int32.reduceAdd, Int32.reduceSub, Int32.reduceMul, eq_self, Bool.false_eq_true]; exact h2, by simp (disch := omega) only [↓reduceIte, ic_t, ic_f, not_true_eq_false, not_false_eq_true, ↓lt_v, rdR, rdE, rdS, leT, leTc, leTd, leF, leFc, leFd, ltT, ltTc, ltTd, ltF, ltFc, ltFd, eqT, eqTc, eqTd, eqF, eqFc, eqFd, m1T, m1F, m1T', m1F', inb_nI, ix_nI, inb_c, ix_c, nI_1, nI_pred, nI_m1, add_nIc, add_cnI, bd_v, reduceCtorEq, eqFcc, m1e0, m1e1, m1l0, m1g0, m2l0, m2g0, Int32.reduceLT, Int32.reduceLE, Int32.reduceAdd, Int32.reduceSub, Int32.reduceMul, eq_self, Bool.false_eq_true], h4, txC_fr h5 (by simp (disch := omega) only [row_n]) (by simp (disch := omega) only [row_n])⟩, fun _ hcl => ?_⟩
      obtain ⟨k1, k2, k3⟩ := g3 (by omega)
      have er : (sI (sI M2 a0 2 (bI bb)) a0 6 (nI (p + 1))).1 (a0 + 1) = M2.1 (a0 + 1) := by simp (disch := omega) only [row_n]
      refine ⟨hbb, by omega, fun i hi => by rw [er]; exact k3 i hi, ?_⟩
      rw [er, k1]
      exact cseg_thing (by omega) k2
    have b1 : bI true = 1 := rfl
    have b0 : bI false = 0 := rfl
    cases b
    · rw [b0] at h3
      by_cases c2 : k = 2
      · simp (disch := omega) only [↓reduceIte, ic_t, ic_f, not_true_eq_false, not_false_eq_true, ↓lt_v, rdR, rdE, rdS, leT, leTc, leTd, leF, leFc, leFd, ltT, ltTc, ltTd, ltF, ltFc, ltFd, eqT, eqTc, eqTd, eqF, eqFc, eqFd, m1T, m1F, m1T', m1F', inb_nI, ix_nI, inb_c, ix_c, nI_1, nI_pred, nI_m1, add_nIc, add_cnI, bd_v, reduceCtorEq, eqFcc, m1e0, m1e1, m1l0, m1g0, m2l0, m2g0, Int32.reduceLT, Int32.reduceLE, Int32.reduceAdd, Int32.reduceSub, Int32.reduceMul, eq_self, Bool.false_eq_true, h3, e_X6_readThing_42, h1]
        exact fin true _ (by rw [decide_eq_true (Or.inl c2)]; rfl) (by rw [b1])
      · by_cases c4 : k = 4
        · simp (disch := omega) only [↓reduceIte, ic_t, ic_f, not_true_eq_false, not_false_eq_true, ↓lt_v, rdR, rdE, rdS, leT, leTc, leTd, leF, leFc, leFd, ltT, ltTc, ltTd, ltF, ltFc, ltFd, eqT, eqTc, eqTd, eqF, eqFc, eqFd, m1T, m1F, m1T', m1F', inb_nI, ix_nI, inb_c, ix_c, nI_1, nI_pred, nI_m1, add_nIc, add_cnI, bd_v, reduceCtorEq, eqFcc, m1e0, m1e1, m1l0, m1g0, m2l0, m2g0, Int32.reduceLT, Int32.reduceLE, Int32.reduceAdd, Int32.reduceSub, Int32.reduceMul, eq_self, Bool.false_eq_true, h3, e_X6_readThing_42, h1]
          exact fin true _ (by rw [decide_eq_true (Or.inr (Or.inl c4))]; rfl) (by rw [b1])
        · by_cases c5 : k = 5
          · simp (disch := omega) only [↓reduceIte, ic_t, ic_f, not_true_eq_false, not_false_eq_true, ↓lt_v, rdR, rdE, rdS, leT, leTc, leTd, leF, leFc, leFd, ltT, ltTc, ltTd, ltF, ltFc, ltFd, eqT, eqTc, eqTd, eqF, eqFc, eqFd, m1T, m1F, m1T', m1F', inb_nI, ix_nI, inb_c, ix_c, nI_1, nI_pred, nI_m1, add_nIc, add_cnI, bd_v, reduceCtorEq, eqFcc, m1e0, m1e1, m1l0, m1g0, m2l0, m2g0, Int32.reduceLT, Int32.reduceLE, Int32.reduceAdd, Int32.reduceSub, Int32.reduceMul, eq_self, Bool.false_eq_true, h3, e_X6_readThing_42, h1]
            exact fin true _ (by rw [decide_eq_true (Or.inr (Or.inr c5))]; rfl) (by rw [b1])
          · simp (disch := omega) only [↓reduceIte, ic_t, ic_f, not_true_eq_false, not_false_eq_true, ↓lt_v, rdR, rdE, rdS, leT, leTc, leTd, leF, leFc, leFd, ltT, ltTc, ltTd, ltF, ltFc, ltFd, eqT, eqTc, eqTd, eqF, eqFc, eqFd, m1T, m1F, m1T', m1F', inb_nI, ix_nI, inb_c, ix_c, nI_1, nI_pred, nI_m1, add_nIc, add_cnI, bd_v, reduceCtorEq, eqFcc, m1e0, m1e1, m1l0, m1g0, m2l0, m2g0, Int32.reduceLT, Int32.reduceLE, Int32.reduceAdd, Int32.reduceSub, Int32.reduceMul, eq_self, Bool.false_eq_true, h3, h1]
            exact fin false _ (by rw [decide_eq_false (by omega)]; rfl) (by rw [b0])
    · rw [b1] at h3
      simp (disch := omega) only [↓reduceIte, ic_t, ic_f, not_true_eq_false, not_false_eq_true, ↓lt_v, rdR, rdE, rdS, leT, leTc, leTd, leF, leFc, leFd, ltT, ltTc, ltTd, ltF, ltFc, ltFd, eqT, eqTc, eqTd, eqF, eqFc, eqFd, m1T, m1F, m1T', m1F', inb_nI, ix_nI, inb_c, ix_c, nI_1, nI_pred, nI_m1, add_nIc, add_cnI, bd_v, reduceCtorEq, eqFcc, m1e0, m1e1, m1l0, m1g0, m2l0, m2g0, Int32.reduceLT, Int32.reduceLE, Int32.reduceAdd, Int32.reduceSub, Int32.reduceMul, eq_self, Bool.false_eq_true, h3, e_X6_readThing_42, h1]
      exact fin true _ rfl (by rw [b1])
  · obtain ⟨hA, h17, h11, hr⟩ := hs
    have hdg := r_isDigit hA
    rw [hnd, Bool.and_false] at hdg
    have b0 : bI false = 0 := rfl
    rw [b0] at hdg
    have hto := r_takesOf0 hA
    rw [if_pos ⟨hp, ht⟩, hk, Nat.add_sub_cancel] at hto
    have hA2 := atR_set hA (b := p + 1) (by omega)
    show Ok (FRa rcR s) _
    unfold FRa
    simp (disch := omega) only [↓reduceIte, ic_t, ic_f, not_true_eq_false, not_false_eq_true, ↓lt_v, rdR, rdE, rdS, leT, leTc, leTd, leF, leFc, leFd, ltT, ltTc, ltTd, ltF, ltFc, ltFd, eqT, eqTc, eqTd, eqF, eqFc, eqFd, m1T, m1F, m1T', m1F', inb_nI, ix_nI, inb_c, ix_c, nI_1, nI_pred, nI_m1, add_nIc, add_cnI, bd_v, reduceCtorEq, eqFcc, m1e0, m1e1, m1l0, m1g0, m2l0, m2g0, Int32.reduceLT, Int32.reduceLE, Int32.reduceAdd, Int32.reduceSub, Int32.reduceMul, eq_self, Bool.false_eq_true, hdg, hto]
    refine ok_call (r_codes (rl := rl) (ne := ne) hA2 (by simp (disch := omega) only [↓reduceIte, ic_t, ic_f, not_true_eq_false, not_false_eq_true, ↓lt_v, rdR, rdE, rdS, leT, leTc, leTd, leF, leFc, leFd, ltT, ltTc, ltTd, ltF, ltFc, ltFd, eqT, eqTc, eqTd, eqF, eqFc, eqFd, m1T, m1F, m1T', m1F', inb_nI, ix_nI, inb_c, ix_c, nI_1, nI_pred, nI_m1, add_nIc, add_cnI, bd_v, reduceCtorEq, eqFcc, m1e0, m1e1, m1l0, m1g0, m2l0, m2g0, Int32.reduceLT, Int32.reduceLE, Int32.reduceAdd, Int32.reduceSub, Int32.reduceMul, eq_self, Bool.false_eq_true]; exact h17) (by simp (disch := omega) only [↓reduceIte, ic_t, ic_f, not_true_eq_false, not_false_eq_true, ↓lt_v, rdR, rdE, rdS, leT, leTc, leTd, leF, leFc, leFd, ltT, ltTc, ltTd, ltF, ltFc, ltFd, eqT, eqTc, eqTd, eqF, eqFc, eqFd, m1T, m1F, m1T', m1F', inb_nI, ix_nI, inb_c, ix_c, nI_1, nI_pred, nI_m1, add_nIc, add_cnI, bd_v, reduceCtorEq, eqFcc, m1e0, m1e1, m1l0, m1g0, m2l0, m2g0, Int32.reduceLT, Int32.reduceLE, Int32.reduceAdd, Int32.reduceSub, Int32.reduceMul, eq_self, Bool.false_eq_true]; exact h11) (by omega)) (fun s2 w => ?_)
    obtain ⟨k1, k2, k3, k4, k5, k6⟩ := w
    refine ok_some ⟨rfl, frR_trans (frR_sI (by omega) (by unfold S3; omega)) k1, rl + 1, ne, k2, k3, k4, by omega, fun i hi => by rw [k6 i hi]; simp (disch := omega) only [↓reduceIte, ic_t, ic_f, not_true_eq_false, not_false_eq_true, ↓lt_v, rdR, rdE, rdS, leT, leTc, leTd, leF, leFc, leFd, ltT, ltTc, ltTd, ltF, ltFc, ltFd, eqT, eqTc, eqTd, eqF, eqFc, eqFd, m1T, m1F, m1T', m1F', inb_nI, ix_nI, inb_c, ix_c, nI_1, nI_pred, nI_m1, add_nIc, add_cnI, bd_v, reduceCtorEq, eqFcc, m1e0, m1e1, m1l0, m1g0, m2l0, m2g0, Int32.reduceLT, Int32.reduceLE, Int32.reduceAdd, Int32.reduceSub, Int32.reduceMul, eq_self, Bool.false_eq_true], fun _ => ⟨rfl, rseg_thing (by omega) k5⟩⟩
theorem m1lt0 : (-1 : Int32) < 0 := by decide
theorem p_fail {a0 L p ne : Nat} {f : Nat → Nat} {rc : Nat → Int32 → Mem → Option (Int32 × Mem)} {rcR : Int32 → Mem → Option (Int32 × Mem)} (hR : a0 = 146 ∨ a0 = 150) (hf : ∀ i, i < L → f i < 256) (hp : p ≤ min L 40) (hne : ne ≤ 4) (hno : p < min L 40 → isD (f p) = false ∧ tI (f p) = 0 ∧ f p ≠ 40) : PSp a0 L f p ne (FCa rc a0 (nI ne)) (FRa rcR) := by
  obtain ⟨e, x', e1, e2, e3, e4, e5, hC, hN⟩ := p_num (L := L) hR hf 3 0 p 0 (by omega) (by decide) (by omega)
  have hep : e = p := e5 (fun q => by have := (hno q.1).1; rw [this] at q; cases q.2)
  subst hep
  have hFU : 2000 < FU := FU_big
  refine ⟨false, e, fun _ => 0, false, Nat.le_refl _, hp, (fun q => by cases q), fun M cl b hc => ?_, fun s rl hs => ?_⟩
  · have pk := c_peek hc (by omega)
    have fin : ∀ fu, 4 ≤ fu → Ok (fX6_readThing_69 fu a0 0 0 0 M) (CPo a0 L f e cl b false e (fun _ => 0) false M) := by
      intro fu hfu
      refine hC M cl b fu _ (by omega) hc (fun M' m1 m2 => ?_)
      rw [e_X6_readThing_125]
      refine ok_call (c_emit hR m1) (fun M2 g => ?_)
      obtain ⟨g1, cl', g2, g3⟩ := g
      rw [show 0 + (e - e) = 0 by omega]
      simp (disch := omega) only [↓reduceIte, ic_t, ic_f, not_true_eq_false, not_false_eq_true, ↓lt_v, rdR, rdE, rdS, leT, leTc, leTd, leF, leFc, leFd, ltT, ltTc, ltTd, ltF, ltFc, ltFd, eqT, eqTc, eqTd, eqF, eqFc, eqFd, m1T, m1F, m1T', m1F', inb_nI, ix_nI, inb_c, ix_c, nI_1, nI_pred, nI_m1, add_nIc, add_cnI, bd_v, reduceCtorEq, eqFcc, m1e0, m1e1, m1l0, m1g0, m2l0, m2g0, Int32.reduceLT, Int32.reduceLE, Int32.reduceAdd, Int32.reduceSub, Int32.reduceMul, eq_self, Bool.false_eq_true]
      exact ok_some ⟨rfl, fr_trans (fr_sub m2 (fun a ha => Or.inl ha)) g1, cl', b, g2, fun q => by cases q⟩
    show Ok (FCa rc a0 (nI ne) M) _
    unfold FCa
    by_cases c : e < min L 40
    · rw [if_pos c] at pk
      obtain ⟨n1, n2, n3⟩ := hno c
      have hc256 := hf e (by omega)
      have th := c_thingOf (M := M) hc256
      rw [n2] at th
      simp (disch := omega) only [↓reduceIte, ic_t, ic_f, not_true_eq_false, not_false_eq_true, ↓lt_v, rdR, rdE, rdS, leT, leTc, leTd, leF, leFc, leFd, ltT, ltTc, ltTd, ltF, ltFc, ltFd, eqT, eqTc, eqTd, eqF, eqFc, eqFd, m1T, m1F, m1T', m1F', inb_nI, ix_nI, inb_c, ix_c, nI_1, nI_pred, nI_m1, add_nIc, add_cnI, bd_v, reduceCtorEq, eqFcc, m1e0, m1e1, m1l0, m1g0, m2l0, m2g0, Int32.reduceLT, Int32.reduceLE, Int32.reduceAdd, Int32.reduceSub, Int32.reduceMul, eq_self, Bool.false_eq_true, pk]
      rw [e_X6_readThing, pk]
      simp (disch := omega) only [↓reduceIte, ic_t, ic_f, not_true_eq_false, not_false_eq_true, ↓lt_v, rdR, rdE, rdS, leT, leTc, leTd, leF, leFc, leFd, ltT, ltTc, ltTd, ltF, ltFc, ltFd, eqT, eqTc, eqTd, eqF, eqFc, eqFd, m1T, m1F, m1T', m1F', inb_nI, ix_nI, inb_c, ix_c, nI_1, nI_pred, nI_m1, add_nIc, add_cnI, bd_v, reduceCtorEq, eqFcc, m1e0, m1e1, m1l0, m1g0, m2l0, m2g0, Int32.reduceLT, Int32.reduceLE, Int32.reduceAdd, Int32.reduceSub, Int32.reduceMul, eq_self, Bool.false_eq_true, th]
      exact fin FU (by omega)
    · rw [if_neg c] at pk
      have n1 : ((-1 : Int32) = 40) = False := by decide
      have th := c_thingOf1 (M := M)
      simp (disch := omega) only [↓reduceIte, ic_t, ic_f, not_true_eq_false, not_false_eq_true, ↓lt_v, rdR, rdE, rdS, leT, leTc, leTd, leF, leFc, leFd, ltT, ltTc, ltTd, ltF, ltFc, ltFd, eqT, eqTc, eqTd, eqF, eqFc, eqFd, m1T, m1F, m1T', m1F', inb_nI, ix_nI, inb_c, ix_c, nI_1, nI_pred, nI_m1, add_nIc, add_cnI, bd_v, reduceCtorEq, eqFcc, m1e0, m1e1, m1l0, m1g0, m2l0, m2g0, Int32.reduceLT, Int32.reduceLE, Int32.reduceAdd, Int32.reduceSub, Int32.reduceMul, eq_self, Bool.false_eq_true, pk, n1]
      rw [e_X6_readThing, pk]
      simp (disch := omega) only [↓reduceIte, ic_t, ic_f, not_true_eq_false, not_false_eq_true, ↓lt_v, rdR, rdE, rdS, leT, leTc, leTd, leF, leFc, leFd, ltT, ltTc, ltTd, ltF, ltFc, ltFd, eqT, eqTc, eqTd, eqF, eqFc, eqFd, m1T, m1F, m1T', m1F', inb_nI, ix_nI, inb_c, ix_c, nI_1, nI_pred, nI_m1, add_nIc, add_cnI, bd_v, reduceCtorEq, eqFcc, m1e0, m1e1, m1l0, m1g0, m2l0, m2g0, Int32.reduceLT, Int32.reduceLE, Int32.reduceAdd, Int32.reduceSub, Int32.reduceMul, eq_self, Bool.false_eq_true, th]
      exact fin FU (by omega)
  · obtain ⟨hA, h17, h11, hr⟩ := hs
    have hdg := r_isDigit hA
    have : (decide (e < min L 40) && isD (f e)) = false := by
      by_cases c : e < min L 40
      · rw [(hno c).1, Bool.and_false]
      · rw [decide_eq_false c]; rfl
    have b0 : bI false = 0 := rfl
    rw [this, b0] at hdg
    have hto := r_takesOf0 hA
    rw [if_neg (fun q => q.2 (hno q.1).2.1)] at hto
    have ht := r_takes (c := 40) hA (by omega)
    have hf40 : ¬ (e < min L 40 ∧ f e = 40) := fun q => (hno q.1).2.2 q.2
    rw [decide_eq_false hf40, if_neg hf40, b0] at ht
    have ht : fX10_takes 40 s = some (0, sI s 169 9 (nI (e + 0))) := by rw [show (40 : Int32) = nI 40 from rfl]; exact ht
    show Ok (FRa rcR s) _
    unfold FRa
    rw [hdg, bd_v, ic_pos (show ((0 : Int32), s).1 = 0 from rfl), show ((0 : Int32), s).2 = s from rfl, hto, bd_v, ic_pos (show ((-1 : Int32), s).1 < 0 from m1lt0), show ((-1 : Int32), s).2 = s from rfl, h11]
    by_cases c4 : ne = 4
    · rw [ic_pos (show nI ne = 4 by rw [c4]; rfl)]
      exact ok_some ⟨rfl, frR_rfl, rl, ne, hA, h17, h11, by omega, fun i hi => rfl, fun q => by cases q⟩
    · rw [ic_neg (show ¬ nI ne = 4 by rw [show (4 : Int32) = nI 4 from rfl, nI_eq (by omega) (by omega)]; exact c4), ht, bd_v, ic_pos (show ((0 : Int32), sI s 169 9 (nI (e + 0))).1 = 0 from rfl)]
      exact ok_some ⟨rfl, frR_sI (by omega) (by unfold S3; omega), rl, ne, atR_set hA (b := e + 0) (by omega), by simp (disch := omega) only [↓reduceIte, ic_t, ic_f, not_true_eq_false, not_false_eq_true, ↓lt_v, rdR, rdE, rdS, leT, leTc, leTd, leF, leFc, leFd, ltT, ltTc, ltTd, ltF, ltFc, ltFd, eqT, eqTc, eqTd, eqF, eqFc, eqFd, m1T, m1F, m1T', m1F', inb_nI, ix_nI, inb_c, ix_c, nI_1, nI_pred, nI_m1, add_nIc, add_cnI, bd_v, reduceCtorEq, eqFcc, m1e0, m1e1, m1l0, m1g0, m2l0, m2g0, Int32.reduceLT, Int32.reduceLE, Int32.reduceAdd, Int32.reduceSub, Int32.reduceMul, eq_self, Bool.false_eq_true]; exact h17, by simp (disch := omega) only [↓reduceIte, ic_t, ic_f, not_true_eq_false, not_false_eq_true, ↓lt_v, rdR, rdE, rdS, leT, leTc, leTd, leF, leFc, leFd, ltT, ltTc, ltTd, ltF, ltFc, ltFd, eqT, eqTc, eqTd, eqF, eqFc, eqFd, m1T, m1F, m1T', m1F', inb_nI, ix_nI, inb_c, ix_c, nI_1, nI_pred, nI_m1, add_nIc, add_cnI, bd_v, reduceCtorEq, eqFcc, m1e0, m1e1, m1l0, m1g0, m2l0, m2g0, Int32.reduceLT, Int32.reduceLE, Int32.reduceAdd, Int32.reduceSub, Int32.reduceMul, eq_self, Bool.false_eq_true]; exact h11, by omega, fun i hi => by simp (disch := omega) only [↓reduceIte, ic_t, ic_f, not_true_eq_false, not_false_eq_true, ↓lt_v, rdR, rdE, rdS, leT, leTc, leTd, leF, leFc, leFd, ltT, ltTc, ltTd, ltF, ltFc, ltFd, eqT, eqTc, eqTd, eqF, eqFc, eqFd, m1T, m1F, m1T', m1F', inb_nI, ix_nI, inb_c, ix_c, nI_1, nI_pred, nI_m1, add_nIc, add_cnI, bd_v, reduceCtorEq, eqFcc, m1e0, m1e1, m1l0, m1g0, m2l0, m2g0, Int32.reduceLT, Int32.reduceLE, Int32.reduceAdd, Int32.reduceSub, Int32.reduceMul, eq_self, Bool.false_eq_true], fun q => by cases q⟩
