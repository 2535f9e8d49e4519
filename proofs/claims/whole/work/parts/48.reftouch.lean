/-! PURE: the reference's touches, races -/
def Bd (n m : Nat) (L : Nat → Int32) : Prop := ∀ k, k < n → -200 ≤ (L k).toInt ∧ (L k).toInt ≤ m
theorem sub_pos32 {a b : Int32} (ha : -200 ≤ a.toInt ∧ a.toInt ≤ 100000) (hb : -200 ≤ b.toInt ∧ b.toInt ≤ 100000) : ((0 : Int32) < a - b) = (b < a) := by
  refine propext ?_
  rw [Int32.lt_iff_toInt_lt, Int32.lt_iff_toInt_lt, Int32.toInt_sub, Int.bmod_eq_of_le (by omega) (by omega)]
  have : (0 : Int32).toInt = 0 := by decide
  rw [this]
  omega
theorem cl20_b (x : Int32) : 0 ≤ (cl20 x).toInt ∧ (cl20 x).toInt ≤ 20 := by
  unfold cl20
  have e0 : (0 : Int32).toInt = 0 := by decide
  have e20 : (20 : Int32).toInt = 20 := by decide
  by_cases h1 : x < 20
  · rw [if_pos h1]
    by_cases h2 : (0 : Int32) < x
    · rw [if_pos h2]
      rw [Int32.lt_iff_toInt_lt] at h1 h2
      omega
    · rw [if_neg h2, e0]; omega
  · rw [if_neg h1, if_pos (by decide), e20]; omega
theorem bd_mv {F : (Nat → Int32) → Int32} {w : Nat → Int32} {o : Nat → Nat} {n t m : Nat} {L : Nat → Int32} {G : Nat → Bool} (h : Bd n m L) (hm : m < 100000) : Bd n (m + 20) (mv F w o n t L G) := by
  intro k hk
  have := h k hk
  unfold mv
  by_cases hg : G k = true
  · rw [if_pos hg]
    have c := cl20_b (F (thg w o n t L G k))
    unfold ftg
    rw [Int32.toInt_add, Int.bmod_eq_of_le (by omega) (by omega)]
    omega
  · rw [if_neg hg]
    omega
theorem bd_rs {F : (Nat → Int32) → Int32} {w : Nat → Int32} {o : Nat → Nat} {n : Nat} (hw : Wf n w o) : ∀ t, t ≤ 1000 → Bd n (20 * t) (rs F w o n t).1
  | 0, _ => by
    intro k hk
    have hn := hw.1
    obtain ⟨g, hg, g1, g2⟩ := hw.2.2.2.1
    have h : ∀ g, g < 31 → ∀ k, k < 6 → -200 ≤ ((-(nI g)) * nI k).toInt ∧ ((-(nI g)) * nI k).toInt ≤ 0 := by decide +kernel
    show -200 ≤ ((-(w 18)) * nI k).toInt ∧ ((-(w 18)) * nI k).toInt ≤ (20 * 0 : Nat)
    rw [hg]
    exact h g (by omega) k (by omega)
  | t + 1, ht => by
    have e : 20 * (t + 1) = 20 * t + 20 := by omega
    rw [e]
    exact bd_mv (m := 20 * t) (bd_rs hw t (by omega)) (by omega)
def PT (a : Nat) : Prop := 179 ≤ a ∧ a ≤ 184
def ST (i : Nat) : Prop := i = 23 ∨ i = 27
theorem r_touches {M : Mem} {n t : Nat} {w : Nat → Int32} {o : Nat → Nat} {L : Nat → Int32} {T : TS} (hw : Wf n w o) (ht : t < 1000) (hb : Bd n 50000 L) (hc : RcR n o L T M) (hi : Ti n T) :
    Ok (fX10_strokeGoes_199 FU (nI t) 1 M) (fun M' => RcR n o L (tl o L t (n - 1) T) M' ∧ FrR PT ST M M') := by
  have hn := hw.1
  have ho : ∀ k, k < n → o k < n := fun k hk => (hw.2.1 k hk).1
  have hFU : 2000 < FU := FU_big
  generalize FU = fu0 at hFU ⊢
  refine ok_loop (max n 1) (fun fu k s => fX10_strokeGoes_199 fu (nI t) (nI k) s) (fun k s => 1 ≤ k ∧ RcR n o L (tl o L t (k - 1) T) s ∧ FrR PT ST M s) ?_ ?_ fu0 1 M (by omega) (by omega) ⟨Nat.le_refl _, hc, frR_rfl⟩
  · intro fu k s hk hs ih
    obtain ⟨hk1, hs, hf⟩ := hs
    have hk2 : k < n := by omega
    have hT := ti_tl (o := o) (L := L) (t := t) hi (k - 1) (by omega)
    have hstep : tl o L t (k + 1 - 1) T = tst o L t k (tl o L t (k - 1) T) := by
      obtain ⟨j, rfl⟩ : ∃ j, k = j + 1 := ⟨k - 1, by omega⟩
      rfl
    rw [hstep] at ih
    generalize tl o L t (k - 1) T = T1 at hs hT ih
    have hna := na_le T1.1 k
    have hah := r_nextA' hn ho hs (Nat.le_of_lt hk2)
    have hbh := r_behind hn ho hs hk2
    have hs' := hs
    obtain ⟨c1, c2, c3, ⟨x, hx, x1, x2, x3⟩, c5, c6⟩ := hs
    have hok := ho k hk2
    have hhas : fX10_has (nI x) (nI (o k)) s = some (bI (T1.1 k), s) := by rw [r_has hx (by omega), x2 k hk2]
    rw [e_X10_strokeGoes_199]
    simp (disch := omega) only [↓reduceIte, ic_t, ic_f, not_true_eq_false, not_false_eq_true, ↓lt_v, rdR, rdE, rdS, leT, leTc, leTd, leF, leFc, leFd, ltT, ltTc, ltTd, ltF, ltFc, ltFd, eqT, eqTc, eqTd, eqF, eqFc, eqFd, m1T, m1F, m1T', m1F', inb_nI, ix_nI, inb_c, ix_c, nI_1, nI_pred, nI_m1, add_nIc, add_cnI, bd_v, reduceCtorEq, eqFcc, m1e0, m1e1, m1l0, m1g0, m2l0, m2g0, Int32.reduceLT, Int32.reduceLE, Int32.reduceAdd, Int32.reduceSub, Int32.reduceMul, eq_self, Bool.false_eq_true, c1, hah, c2, x1, hhas, bI_0]
    cases hg : T1.1 k
    · simp (disch := omega) only [↓reduceIte, ic_t, ic_f, not_true_eq_false, not_false_eq_true, ↓lt_v, rdR, rdE, rdS, leT, leTc, leTd, leF, leFc, leFd, ltT, ltTc, ltTd, ltF, ltFc, ltFd, eqT, eqTc, eqTd, eqF, eqFc, eqFd, m1T, m1F, m1T', m1F', inb_nI, ix_nI, inb_c, ix_c, nI_1, nI_pred, nI_m1, add_nIc, add_cnI, bd_v, reduceCtorEq, eqFcc, m1e0, m1e1, m1l0, m1g0, m2l0, m2g0, Int32.reduceLT, Int32.reduceLE, Int32.reduceAdd, Int32.reduceSub, Int32.reduceMul, eq_self, Bool.false_eq_true]
      refine ih _ ⟨by omega, ?_, hf⟩
      unfold tst
      rw [if_neg (by simp [hg])]
      exact hs'
    · by_cases h0 : na T1.1 k = 0
      · simp (disch := omega) only [↓reduceIte, ic_t, ic_f, not_true_eq_false, not_false_eq_true, ↓lt_v, rdR, rdE, rdS, leT, leTc, leTd, leF, leFc, leFd, ltT, ltTc, ltTd, ltF, ltFc, ltFd, eqT, eqTc, eqTd, eqF, eqFc, eqFd, m1T, m1F, m1T', m1F', inb_nI, ix_nI, inb_c, ix_c, nI_1, nI_pred, nI_m1, add_nIc, add_cnI, bd_v, reduceCtorEq, eqFcc, m1e0, m1e1, m1l0, m1g0, m2l0, m2g0, Int32.reduceLT, Int32.reduceLE, Int32.reduceAdd, Int32.reduceSub, Int32.reduceMul, eq_self, Bool.false_eq_true]
        refine ih _ ⟨by omega, ?_, hf⟩
        unfold tst
        rw [if_neg (by simp [h0])]
        exact hs'
      · obtain ⟨a, ha⟩ : ∃ a, na T1.1 k = a + 1 := ⟨na T1.1 k - 1, by omega⟩
        have hoa := ho a (by omega)
        have h4 := ti_two hT hk2 hg h0
        have hcmp : ((0 : Int32) < L a - L k) = (L k < L a) := sub_pos32 (by have := hb a (by omega); omega) (by have := hb k hk2; omega)
        simp (disch := omega) only [↓reduceIte, ic_t, ic_f, not_true_eq_false, not_false_eq_true, ↓lt_v, rdR, rdE, rdS, leT, leTc, leTd, leF, leFc, leFd, ltT, ltTc, ltTd, ltF, ltFc, ltFd, eqT, eqTc, eqTd, eqF, eqFc, eqFd, m1T, m1F, m1T', m1F', inb_nI, ix_nI, inb_c, ix_c, nI_1, nI_pred, nI_m1, add_nIc, add_cnI, bd_v, reduceCtorEq, eqFcc, m1e0, m1e1, m1l0, m1g0, m2l0, m2g0, Int32.reduceLT, Int32.reduceLE, Int32.reduceAdd, Int32.reduceSub, Int32.reduceMul, eq_self, Bool.false_eq_true, ha, hbh, Nat.add_one_ne_zero, Nat.add_sub_cancel, hcmp]
        by_cases h3 : L k < L a
        · simp (disch := omega) only [↓reduceIte, ic_t, ic_f, not_true_eq_false, not_false_eq_true, ↓lt_v, rdR, rdE, rdS, leT, leTc, leTd, leF, leFc, leFd, ltT, ltTc, ltTd, ltF, ltFc, ltFd, eqT, eqTc, eqTd, eqF, eqFc, eqFd, m1T, m1F, m1T', m1F', inb_nI, ix_nI, inb_c, ix_c, nI_1, nI_pred, nI_m1, add_nIc, add_cnI, bd_v, reduceCtorEq, eqFcc, m1e0, m1e1, m1l0, m1g0, m2l0, m2g0, Int32.reduceLT, Int32.reduceLE, Int32.reduceAdd, Int32.reduceSub, Int32.reduceMul, eq_self, Bool.false_eq_true, eq_true h3]
          refine ih _ ⟨by omega, ?_, hf⟩
          unfold tst
          rw [if_neg (by simp [ha, h3])]
          exact hs'
        · obtain ⟨⟨k1, k2⟩, k3⟩ := bt_clr x hx (o k) (by omega) (o a) (by omega)
          simp (disch := omega) only [↓reduceIte, ic_t, ic_f, not_true_eq_false, not_false_eq_true, ↓lt_v, rdR, rdE, rdS, leT, leTc, leTd, leF, leFc, leFd, ltT, ltTc, ltTd, ltF, ltFc, ltFd, eqT, eqTc, eqTd, eqF, eqFc, eqFd, m1T, m1F, m1T', m1F', inb_nI, ix_nI, inb_c, ix_c, nI_1, nI_pred, nI_m1, add_nIc, add_cnI, bd_v, reduceCtorEq, eqFcc, m1e0, m1e1, m1l0, m1g0, m2l0, m2g0, Int32.reduceLT, Int32.reduceLE, Int32.reduceAdd, Int32.reduceSub, Int32.reduceMul, eq_self, Bool.false_eq_true, eq_false h3, c5, c2, x1, k1]
          refine ih _ ⟨by omega, ?_, frR_trans hf (by unfold PT ST; repeat (first | exact frR_rfl | refine frR_trans ?_ (frR_sI (by omega) (by omega))))⟩
          have hne : T1.2.1 < 6 := by omega
          unfold tst
          rw [if_pos ⟨hg, h0, by rw [ha]; exact h3⟩, ha]
          refine ⟨?_, ?_, ?_, ⟨clr x (o k) (o a), k2, ?_, ?_, ?_⟩, ?_, ?_⟩
          · simp (disch := omega) only [↓reduceIte, ic_t, ic_f, not_true_eq_false, not_false_eq_true, ↓lt_v, rdR, rdE, rdS, leT, leTc, leTd, leF, leFc, leFd, ltT, ltTc, ltTd, ltF, ltFc, ltFd, eqT, eqTc, eqTd, eqF, eqFc, eqFd, m1T, m1F, m1T', m1F', inb_nI, ix_nI, inb_c, ix_c, nI_1, nI_pred, nI_m1, add_nIc, add_cnI, bd_v, reduceCtorEq, eqFcc, m1e0, m1e1, m1l0, m1g0, m2l0, m2g0, Int32.reduceLT, Int32.reduceLE, Int32.reduceAdd, Int32.reduceSub, Int32.reduceMul, eq_self, Bool.false_eq_true, c1]
          · intro j hj
            simp (disch := omega) only [↓reduceIte, ic_t, ic_f, not_true_eq_false, not_false_eq_true, ↓lt_v, rdR, rdE, rdS, leT, leTc, leTd, leF, leFc, leFd, ltT, ltTc, ltTd, ltF, ltFc, ltFd, eqT, eqTc, eqTd, eqF, eqFc, eqFd, m1T, m1F, m1T', m1F', inb_nI, ix_nI, inb_c, ix_c, nI_1, nI_pred, nI_m1, add_nIc, add_cnI, bd_v, reduceCtorEq, eqFcc, m1e0, m1e1, m1l0, m1g0, m2l0, m2g0, Int32.reduceLT, Int32.reduceLE, Int32.reduceAdd, Int32.reduceSub, Int32.reduceMul, eq_self, Bool.false_eq_true, c2]
          · intro j hj
            have := ho j hj
            simp (disch := omega) only [↓reduceIte, ic_t, ic_f, not_true_eq_false, not_false_eq_true, ↓lt_v, rdR, rdE, rdS, leT, leTc, leTd, leF, leFc, leFd, ltT, ltTc, ltTd, ltF, ltFc, ltFd, eqT, eqTc, eqTd, eqF, eqFc, eqFd, m1T, m1F, m1T', m1F', inb_nI, ix_nI, inb_c, ix_c, nI_1, nI_pred, nI_m1, add_nIc, add_cnI, bd_v, reduceCtorEq, eqFcc, m1e0, m1e1, m1l0, m1g0, m2l0, m2g0, Int32.reduceLT, Int32.reduceLE, Int32.reduceAdd, Int32.reduceSub, Int32.reduceMul, eq_self, Bool.false_eq_true, c3]
          · simp (disch := omega) only [↓reduceIte, ic_t, ic_f, not_true_eq_false, not_false_eq_true, ↓lt_v, rdR, rdE, rdS, leT, leTc, leTd, leF, leFc, leFd, ltT, ltTc, ltTd, ltF, ltFc, ltFd, eqT, eqTc, eqTd, eqF, eqFc, eqFd, m1T, m1F, m1T', m1F', inb_nI, ix_nI, inb_c, ix_c, nI_1, nI_pred, nI_m1, add_nIc, add_cnI, bd_v, reduceCtorEq, eqFcc, m1e0, m1e1, m1l0, m1g0, m2l0, m2g0, Int32.reduceLT, Int32.reduceLE, Int32.reduceAdd, Int32.reduceSub, Int32.reduceMul, eq_self, Bool.false_eq_true]
          · intro j hj
            have hoj := ho j hj
            rw [k3 (o j) (by omega), x2 j hj]
            show _ = off (off T1.1 k) (a + 1 - 1) j
            unfold off
            rw [Nat.add_sub_cancel]
            by_cases e1 : j = a
            · subst e1; simp
            · have n1 : o j ≠ o a := fun q => e1 (wf_inj hw hj (by omega) q)
              by_cases e2 : j = k
              · subst e2; simp
              · have n2 : o j ≠ o k := fun q => e2 (wf_inj hw hj hk2 q)
                simp [e1, e2, n1, n2]
          · intro b hb1 hb2
            rw [k3 b hb2, x3 b hb1 hb2]
            simp
          · simp (disch := omega) only [↓reduceIte, ic_t, ic_f, not_true_eq_false, not_false_eq_true, ↓lt_v, rdR, rdE, rdS, leT, leTc, leTd, leF, leFc, leFd, ltT, ltTc, ltTd, ltF, ltFc, ltFd, eqT, eqTc, eqTd, eqF, eqFc, eqFd, m1T, m1F, m1T', m1F', inb_nI, ix_nI, inb_c, ix_c, nI_1, nI_pred, nI_m1, add_nIc, add_cnI, bd_v, reduceCtorEq, eqFcc, m1e0, m1e1, m1l0, m1g0, m2l0, m2g0, Int32.reduceLT, Int32.reduceLE, Int32.reduceAdd, Int32.reduceSub, Int32.reduceMul, eq_self, Bool.false_eq_true]
          · intro i hi
            by_cases e : i = T1.2.1
            · subst e
              simp (disch := omega) only [↓reduceIte, ic_t, ic_f, not_true_eq_false, not_false_eq_true, ↓lt_v, rdR, rdE, rdS, leT, leTc, leTd, leF, leFc, leFd, ltT, ltTc, ltTd, ltF, ltFc, ltFd, eqT, eqTc, eqTd, eqF, eqFc, eqFd, m1T, m1F, m1T', m1F', inb_nI, ix_nI, inb_c, ix_c, nI_1, nI_pred, nI_m1, add_nIc, add_cnI, bd_v, reduceCtorEq, eqFcc, m1e0, m1e1, m1l0, m1g0, m2l0, m2g0, Int32.reduceLT, Int32.reduceLE, Int32.reduceAdd, Int32.reduceSub, Int32.reduceMul, eq_self, Bool.false_eq_true, up1_e, Nat.add_sub_cancel]
              exact ⟨trivial, trivial, trivial⟩
            · simp (disch := omega) only [↓reduceIte, ic_t, ic_f, not_true_eq_false, not_false_eq_true, ↓lt_v, rdR, rdE, rdS, leT, leTc, leTd, leF, leFc, leFd, ltT, ltTc, ltTd, ltF, ltFc, ltFd, eqT, eqTc, eqTd, eqF, eqFc, eqFd, m1T, m1F, m1T', m1F', inb_nI, ix_nI, inb_c, ix_c, nI_1, nI_pred, nI_m1, add_nIc, add_cnI, bd_v, reduceCtorEq, eqFcc, m1e0, m1e1, m1l0, m1g0, m2l0, m2g0, Int32.reduceLT, Int32.reduceLE, Int32.reduceAdd, Int32.reduceSub, Int32.reduceMul, eq_self, Bool.false_eq_true, up1_n]
              exact c6 i (by simp at hi; omega)
  · intro fu s hs
    obtain ⟨_, hs, hf⟩ := hs
    have c1 := hs.1
    rw [e_X10_strokeGoes_199]
    simp (disch := omega) only [↓reduceIte, ic_t, ic_f, not_true_eq_false, not_false_eq_true, ↓lt_v, rdR, rdE, rdS, leT, leTc, leTd, leF, leFc, leFd, ltT, ltTc, ltTd, ltF, ltFc, ltFd, eqT, eqTc, eqTd, eqF, eqFc, eqFd, m1T, m1F, m1T', m1F', inb_nI, ix_nI, inb_c, ix_c, nI_1, nI_pred, nI_m1, add_nIc, add_cnI, bd_v, reduceCtorEq, eqFcc, m1e0, m1e1, m1l0, m1g0, m2l0, m2g0, Int32.reduceLT, Int32.reduceLE, Int32.reduceAdd, Int32.reduceSub, Int32.reduceMul, eq_self, Bool.false_eq_true, c1]
    refine ok_some ⟨?_, hf⟩
    have e : max n 1 - 1 = n - 1 := by omega
    rwa [e] at hs
theorem rcR_ext {n : Nat} {o : Nat → Nat} {L L' : Nat → Int32} {T : TS} {M : Mem} (h : RcR n o L T M) (hl : ∀ k, k < n → L k = L' k) : RcR n o L' T M := ⟨h.1, h.2.1, fun k hk => (h.2.2.1 k hk).trans (hl k hk), h.2.2.2⟩
theorem r_moves {M : Mem} {n t : Nat} {w : Nat → Int32} {o : Nat → Nat} {L ft : Nat → Int32} {T : TS} (hw : Wf n w o) (ht : t < 1000) (hc : RcR n o L T M) (hi : Ti n T) (hft : ∀ k, k < n → M.1 181 (o k) = if T.1 k = true then ft k else 0) {L' : Nat → Int32} (hL : ∀ k, k < n → L' k = if T.1 k = true then L k + ft k else L k) (hb : Bd n 50000 L') :
    Ok (fX10_strokeGoes_168 FU (nI t) 0 M) (fun M' => RcR n o L' (tl o L' t (n - 1) T) M' ∧ FrR PT ST M M') := by
  have hn := hw.1
  have ho : ∀ k, k < n → o k < n := fun k hk => (hw.2.1 k hk).1
  have tail := fun (s : Mem) (h1 : RcR n o L' T s) => r_touches (t := t) hw ht hb h1 hi
  have hFU : 2000 < FU := FU_big
  generalize FU = fu0 at hFU ⊢
  refine ok_loop n (fun fu k s => fX10_strokeGoes_168 fu (nI t) (nI k) s) (fun k s => RcR n o (fun j => if o j < k then L' j else L j) T s ∧ s.1 181 = M.1 181 ∧ FrR PT ST M s) ?_ ?_ fu0 0 M (by omega) (by omega) ⟨rcR_ext hc (fun k hk => by simp), rfl, frR_rfl⟩
  · intro fu b s hb hs ih
    obtain ⟨hs, h181, hf⟩ := hs
    obtain ⟨k, hk, rfl⟩ := hw.2.2.1 b hb
    obtain ⟨c1, c2, c3, ⟨x, hx, x1, x2, x3⟩, c5, c6⟩ := hs
    have hlt : ¬ o k < o k := by omega
    have g1 : s.1 180 (o k) = L k := (c3 k hk).trans (if_neg hlt)
    have g2 : s.1 181 (o k) = if T.1 k = true then ft k else 0 := by rw [h181]; exact hft k hk
    rw [e_X10_strokeGoes_168]
    simp (disch := omega) only [↓reduceIte, ic_t, ic_f, not_true_eq_false, not_false_eq_true, ↓lt_v, rdR, rdE, rdS, leT, leTc, leTd, leF, leFc, leFd, ltT, ltTc, ltTd, ltF, ltFc, ltFd, eqT, eqTc, eqTd, eqF, eqFc, eqFd, m1T, m1F, m1T', m1F', inb_nI, ix_nI, inb_c, ix_c, nI_1, nI_pred, nI_m1, add_nIc, add_cnI, bd_v, reduceCtorEq, eqFcc, m1e0, m1e1, m1l0, m1g0, m2l0, m2g0, Int32.reduceLT, Int32.reduceLE, Int32.reduceAdd, Int32.reduceSub, Int32.reduceMul, eq_self, Bool.false_eq_true, c1, g1, g2]
    refine ih _ ⟨⟨?_, ?_, ?_, ⟨x, hx, ?_, x2, x3⟩, ?_, ?_⟩, ?_, frR_trans hf (frR_sI (by unfold PT; omega) (by omega))⟩
    · simp (disch := omega) only [↓reduceIte, ic_t, ic_f, not_true_eq_false, not_false_eq_true, ↓lt_v, rdR, rdE, rdS, leT, leTc, leTd, leF, leFc, leFd, ltT, ltTc, ltTd, ltF, ltFc, ltFd, eqT, eqTc, eqTd, eqF, eqFc, eqFd, m1T, m1F, m1T', m1F', inb_nI, ix_nI, inb_c, ix_c, nI_1, nI_pred, nI_m1, add_nIc, add_cnI, bd_v, reduceCtorEq, eqFcc, m1e0, m1e1, m1l0, m1g0, m2l0, m2g0, Int32.reduceLT, Int32.reduceLE, Int32.reduceAdd, Int32.reduceSub, Int32.reduceMul, eq_self, Bool.false_eq_true, c1]
    · intro j hj
      simp (disch := omega) only [↓reduceIte, ic_t, ic_f, not_true_eq_false, not_false_eq_true, ↓lt_v, rdR, rdE, rdS, leT, leTc, leTd, leF, leFc, leFd, ltT, ltTc, ltTd, ltF, ltFc, ltFd, eqT, eqTc, eqTd, eqF, eqFc, eqFd, m1T, m1F, m1T', m1F', inb_nI, ix_nI, inb_c, ix_c, nI_1, nI_pred, nI_m1, add_nIc, add_cnI, bd_v, reduceCtorEq, eqFcc, m1e0, m1e1, m1l0, m1g0, m2l0, m2g0, Int32.reduceLT, Int32.reduceLE, Int32.reduceAdd, Int32.reduceSub, Int32.reduceMul, eq_self, Bool.false_eq_true, c2]
    · intro j hj
      by_cases e : j = k
      · subst e
        simp (disch := omega) only [↓reduceIte, ic_t, ic_f, not_true_eq_false, not_false_eq_true, ↓lt_v, rdR, rdE, rdS, leT, leTc, leTd, leF, leFc, leFd, ltT, ltTc, ltTd, ltF, ltFc, ltFd, eqT, eqTc, eqTd, eqF, eqFc, eqFd, m1T, m1F, m1T', m1F', inb_nI, ix_nI, inb_c, ix_c, nI_1, nI_pred, nI_m1, add_nIc, add_cnI, bd_v, reduceCtorEq, eqFcc, m1e0, m1e1, m1l0, m1g0, m2l0, m2g0, Int32.reduceLT, Int32.reduceLE, Int32.reduceAdd, Int32.reduceSub, Int32.reduceMul, eq_self, Bool.false_eq_true]
        rw [if_pos (show o j < o j + 1 by omega), hL j hj]
        cases T.1 j <;> simp [Int32.add_zero]
      · have n1 : o j ≠ o k := fun q => e (wf_inj hw hj hk q)
        simp (disch := omega) only [↓reduceIte, ic_t, ic_f, not_true_eq_false, not_false_eq_true, ↓lt_v, rdR, rdE, rdS, leT, leTc, leTd, leF, leFc, leFd, ltT, ltTc, ltTd, ltF, ltFc, ltFd, eqT, eqTc, eqTd, eqF, eqFc, eqFd, m1T, m1F, m1T', m1F', inb_nI, ix_nI, inb_c, ix_c, nI_1, nI_pred, nI_m1, add_nIc, add_cnI, bd_v, reduceCtorEq, eqFcc, m1e0, m1e1, m1l0, m1g0, m2l0, m2g0, Int32.reduceLT, Int32.reduceLE, Int32.reduceAdd, Int32.reduceSub, Int32.reduceMul, eq_self, Bool.false_eq_true, c3]
        have : (o j < o k + 1) = (o j < o k) := propext (by omega)
        simp only [this]
    · simp (disch := omega) only [↓reduceIte, ic_t, ic_f, not_true_eq_false, not_false_eq_true, ↓lt_v, rdR, rdE, rdS, leT, leTc, leTd, leF, leFc, leFd, ltT, ltTc, ltTd, ltF, ltFc, ltFd, eqT, eqTc, eqTd, eqF, eqFc, eqFd, m1T, m1F, m1T', m1F', inb_nI, ix_nI, inb_c, ix_c, nI_1, nI_pred, nI_m1, add_nIc, add_cnI, bd_v, reduceCtorEq, eqFcc, m1e0, m1e1, m1l0, m1g0, m2l0, m2g0, Int32.reduceLT, Int32.reduceLE, Int32.reduceAdd, Int32.reduceSub, Int32.reduceMul, eq_self, Bool.false_eq_true, x1]
    · simp (disch := omega) only [↓reduceIte, ic_t, ic_f, not_true_eq_false, not_false_eq_true, ↓lt_v, rdR, rdE, rdS, leT, leTc, leTd, leF, leFc, leFd, ltT, ltTc, ltTd, ltF, ltFc, ltFd, eqT, eqTc, eqTd, eqF, eqFc, eqFd, m1T, m1F, m1T', m1F', inb_nI, ix_nI, inb_c, ix_c, nI_1, nI_pred, nI_m1, add_nIc, add_cnI, bd_v, reduceCtorEq, eqFcc, m1e0, m1e1, m1l0, m1g0, m2l0, m2g0, Int32.reduceLT, Int32.reduceLE, Int32.reduceAdd, Int32.reduceSub, Int32.reduceMul, eq_self, Bool.false_eq_true, c5]
    · intro i hi
      simp (disch := omega) only [↓reduceIte, ic_t, ic_f, not_true_eq_false, not_false_eq_true, ↓lt_v, rdR, rdE, rdS, leT, leTc, leTd, leF, leFc, leFd, ltT, ltTc, ltTd, ltF, ltFc, ltFd, eqT, eqTc, eqTd, eqF, eqFc, eqFd, m1T, m1F, m1T', m1F', inb_nI, ix_nI, inb_c, ix_c, nI_1, nI_pred, nI_m1, add_nIc, add_cnI, bd_v, reduceCtorEq, eqFcc, m1e0, m1e1, m1l0, m1g0, m2l0, m2g0, Int32.reduceLT, Int32.reduceLE, Int32.reduceAdd, Int32.reduceSub, Int32.reduceMul, eq_self, Bool.false_eq_true]
      exact c6 i hi
    · funext i
      simp (disch := omega) only [↓reduceIte, ic_t, ic_f, not_true_eq_false, not_false_eq_true, ↓lt_v, rdR, rdE, rdS, leT, leTc, leTd, leF, leFc, leFd, ltT, ltTc, ltTd, ltF, ltFc, ltFd, eqT, eqTc, eqTd, eqF, eqFc, eqFd, m1T, m1F, m1T', m1F', inb_nI, ix_nI, inb_c, ix_c, nI_1, nI_pred, nI_m1, add_nIc, add_cnI, bd_v, reduceCtorEq, eqFcc, m1e0, m1e1, m1l0, m1g0, m2l0, m2g0, Int32.reduceLT, Int32.reduceLE, Int32.reduceAdd, Int32.reduceSub, Int32.reduceMul, eq_self, Bool.false_eq_true, h181]
  · intro fu s hs
    obtain ⟨hs, _, hf⟩ := hs
    have c1 := hs.1
    rw [e_X10_strokeGoes_168]
    simp (disch := omega) only [↓reduceIte, ic_t, ic_f, not_true_eq_false, not_false_eq_true, ↓lt_v, rdR, rdE, rdS, leT, leTc, leTd, leF, leFc, leFd, ltT, ltTc, ltTd, ltF, ltFc, ltFd, eqT, eqTc, eqTd, eqF, eqFc, eqFd, m1T, m1F, m1T', m1F', inb_nI, ix_nI, inb_c, ix_c, nI_1, nI_pred, nI_m1, add_nIc, add_cnI, bd_v, reduceCtorEq, eqFcc, m1e0, m1e1, m1l0, m1g0, m2l0, m2g0, Int32.reduceLT, Int32.reduceLE, Int32.reduceAdd, Int32.reduceSub, Int32.reduceMul, eq_self, Bool.false_eq_true, c1]
    exact ok_mono (tail s (rcR_ext hs (fun k hk => by simp [ho k hk]))) (fun M' h => ⟨h.1, frR_trans hf h.2⟩)
def PRr (a : Nat) : Prop := 177 ≤ a ∧ a ≤ 184
theorem r_stroke {M : Mem} {n a t : Nat} {w : Nat → Int32} {o : Nat → Nat} {F : (Nat → Int32) → Int32} {s : RS} (hw : Wf n w o) (ht : t < 1000) (hl : ln a = 22) (ha : a < 169 ∨ 184 < a ∨ a = 171 ∨ a = 172) (hc : RcR n o s.1 s.2 M) (hi : Ti n s.2) (hb : Bd n 40000 s.1) (hv : ∀ i, i < 22 → M.1 a i = w i) (hu : RuR F M) :
    Ok (fX10_strokeGoes a (nI t) M) (fun M' => RcR n o (stp F w o n t s).1 (stp F w o n t s).2 M' ∧ FrR PRr ST M M') := by
  refine r_asks (t := t) hw hl ha hc hv hu (fun s1 h1 h2 => ?_)
  refine ok_mono (r_moves (L' := (stp F w o n t s).1) hw ht (rcR_fr hc h2 (fun b hb => by unfold PA at hb; omega) (fun i hi => hi.elim)) hi h1 (fun k hk => rfl) (fun k hk => ?_)) (fun M' h => ⟨h.1, frR_trans (frR_sub h2 (fun b _ hb => by unfold PA at hb; unfold PRr; omega) (fun i hi => hi.elim)) (frR_sub h.2 (fun b _ hb => by unfold PT at hb; unfold PRr; omega) (fun i hi => hi))⟩)
  have := bd_mv (F := F) (w := w) (o := o) (t := t) (G := s.2.1) hb (by omega) k hk
  exact ⟨this.1, by have := this.2; show (mv F w o n t s.1 s.2.1 k).toInt ≤ _; omega⟩
theorem r_boatOn {M : Mem} {n a k : Nat} {w : Nat → Int32} {o : Nat → Nat} (hw : Wf n w o) (hl : ln a = 22) (h0 : M.1 169 3 = nI n) (hv : ∀ i, i < 22 → M.1 a i = w i) (hk : k < n) : fX10_boatOn a (nI k) M = some (nI (o k), M) := by
  have hn := hw.1
  have hok := (hw.2.1 k hk).1
  have : Ok (fX10_boatOn a (nI k) M) (fun q => q = (nI (o k), M)) := by
    rw [e_X10_boatOn]
    have hFU : 2000 < FU := FU_big
    generalize FU = fu0 at hFU ⊢
    refine ok_loop (o k) (fun fu j (s : Mem) => fX10_boatOn_2 fu a (nI k) (nI j) s) (fun j s => s = M) ?_ ?_ fu0 0 M (by omega) (by omega) rfl
    · intro fu j s hj hs ih
      subst hs
      obtain ⟨i, hi, rfl⟩ := hw.2.2.1 j (by omega)
      have hwi := (hw.2.1 i hi).2
      have hne : i ≠ k := fun q => by subst q; omega
      rw [e_X10_boatOn_2]
      simp (disch := omega) only [↓reduceIte, ic_t, ic_f, not_true_eq_false, not_false_eq_true, ↓lt_v, rdR, rdE, rdS, leT, leTc, leTd, leF, leFc, leFd, ltT, ltTc, ltTd, ltF, ltFc, ltFd, eqT, eqTc, eqTd, eqF, eqFc, eqFd, m1T, m1F, m1T', m1F', inb_nI, ix_nI, inb_c, ix_c, nI_1, nI_pred, nI_m1, add_nIc, add_cnI, bd_v, reduceCtorEq, eqFcc, m1e0, m1e1, m1l0, m1g0, m2l0, m2g0, Int32.reduceLT, Int32.reduceLE, Int32.reduceAdd, Int32.reduceSub, Int32.reduceMul, eq_self, Bool.false_eq_true, h0, hl, hv, hwi]
      exact ih _ rfl
    · intro fu s hs
      subst hs
      have hwi := (hw.2.1 k hk).2
      rw [e_X10_boatOn_2]
      simp (disch := omega) only [↓reduceIte, ic_t, ic_f, not_true_eq_false, not_false_eq_true, ↓lt_v, rdR, rdE, rdS, leT, leTc, leTd, leF, leFc, leFd, ltT, ltTc, ltTd, ltF, ltFc, ltFd, eqT, eqTc, eqTd, eqF, eqFc, eqFd, m1T, m1F, m1T', m1F', inb_nI, ix_nI, inb_c, ix_c, nI_1, nI_pred, nI_m1, add_nIc, add_cnI, bd_v, reduceCtorEq, eqFcc, m1e0, m1e1, m1l0, m1g0, m2l0, m2g0, Int32.reduceLT, Int32.reduceLE, Int32.reduceAdd, Int32.reduceSub, Int32.reduceMul, eq_self, Bool.false_eq_true, h0, hl, hv, hwi]
      exact ok_some rfl
  obtain ⟨q, h1, h2⟩ := this
  rw [h1, h2]
theorem r_lays {M : Mem} {n a : Nat} {w : Nat → Int32} {o : Nat → Nat} (hw : Wf n w o) (hl : ln a = 22) (ha : a < 169 ∨ 184 < a ∨ a = 171 ∨ a = 172) (h0 : M.1 169 3 = nI n) (hv : ∀ i, i < 22 → M.1 a i = w i) :
    Ok (fX10_laysRace a M) (fun M' => RcR n o (rs0 w).1 (rs0 w).2 M' ∧ FrR PRr ST M M') := by
  have hn := hw.1
  have ho : ∀ k, k < n → o k < n := fun k hk => (hw.2.1 k hk).1
  obtain ⟨b1, b2, b3⟩ := bt_all n hn
  rw [e_X10_laysRace]
  simp (disch := omega) only [↓reduceIte, ic_t, ic_f, not_true_eq_false, not_false_eq_true, ↓lt_v, rdR, rdE, rdS, leT, leTc, leTd, leF, leFc, leFd, ltT, ltTc, ltTd, ltF, ltFc, ltFd, eqT, eqTc, eqTd, eqF, eqFc, eqFd, m1T, m1F, m1T', m1F', inb_nI, ix_nI, inb_c, ix_c, nI_1, nI_pred, nI_m1, add_nIc, add_cnI, bd_v, reduceCtorEq, eqFcc, m1e0, m1e1, m1l0, m1g0, m2l0, m2g0, Int32.reduceLT, Int32.reduceLE, Int32.reduceAdd, Int32.reduceSub, Int32.reduceMul, eq_self, Bool.false_eq_true, h0, b1]
  have hFU : 2000 < FU := FU_big
  generalize FU = fu0 at hFU ⊢
  refine ok_loop n (fun fu k s => fX10_laysRace_19 fu a (nI k) s) (fun k s => (s.1 169 3 = nI n ∧ s.1 169 23 = nI (2 ^ n - 1) ∧ s.1 169 27 = nI 0 ∧ ∀ j, j < k → s.1 179 j = nI (o j) ∧ s.1 180 (o j) = (rs0 w).1 j) ∧ (∀ i, i < 22 → s.1 a i = w i) ∧ FrR PRr ST M s) ?_ ?_ fu0 0 _ (by omega) (by omega) ⟨⟨?_, ?_, ?_, fun j hj => absurd hj (Nat.not_lt_zero _)⟩, ?_, ?_⟩
  · intro fu k s hk hs ih
    obtain ⟨⟨c1, c2, c3, c4⟩, hv1, hf⟩ := hs
    have hbo := r_boatOn hw hl c1 hv1 hk
    have hok := ho k hk
    rw [e_X10_laysRace_19]
    simp (disch := omega) only [↓reduceIte, ic_t, ic_f, not_true_eq_false, not_false_eq_true, ↓lt_v, rdR, rdE, rdS, leT, leTc, leTd, leF, leFc, leFd, ltT, ltTc, ltTd, ltF, ltFc, ltFd, eqT, eqTc, eqTd, eqF, eqFc, eqFd, m1T, m1F, m1T', m1F', inb_nI, ix_nI, inb_c, ix_c, nI_1, nI_pred, nI_m1, add_nIc, add_cnI, bd_v, reduceCtorEq, eqFcc, m1e0, m1e1, m1l0, m1g0, m2l0, m2g0, Int32.reduceLT, Int32.reduceLE, Int32.reduceAdd, Int32.reduceSub, Int32.reduceMul, eq_self, Bool.false_eq_true, c1, hbo, hl, hv1]
    refine ih _ ⟨⟨?_, ?_, ?_, ?_⟩, ?_, frR_trans hf (by unfold PRr ST; repeat (first | exact frR_rfl | refine frR_trans ?_ (frR_sI (by omega) (by omega))))⟩
    · simp (disch := omega) only [↓reduceIte, ic_t, ic_f, not_true_eq_false, not_false_eq_true, ↓lt_v, rdR, rdE, rdS, leT, leTc, leTd, leF, leFc, leFd, ltT, ltTc, ltTd, ltF, ltFc, ltFd, eqT, eqTc, eqTd, eqF, eqFc, eqFd, m1T, m1F, m1T', m1F', inb_nI, ix_nI, inb_c, ix_c, nI_1, nI_pred, nI_m1, add_nIc, add_cnI, bd_v, reduceCtorEq, eqFcc, m1e0, m1e1, m1l0, m1g0, m2l0, m2g0, Int32.reduceLT, Int32.reduceLE, Int32.reduceAdd, Int32.reduceSub, Int32.reduceMul, eq_self, Bool.false_eq_true, c1]
    · simp (disch := omega) only [↓reduceIte, ic_t, ic_f, not_true_eq_false, not_false_eq_true, ↓lt_v, rdR, rdE, rdS, leT, leTc, leTd, leF, leFc, leFd, ltT, ltTc, ltTd, ltF, ltFc, ltFd, eqT, eqTc, eqTd, eqF, eqFc, eqFd, m1T, m1F, m1T', m1F', inb_nI, ix_nI, inb_c, ix_c, nI_1, nI_pred, nI_m1, add_nIc, add_cnI, bd_v, reduceCtorEq, eqFcc, m1e0, m1e1, m1l0, m1g0, m2l0, m2g0, Int32.reduceLT, Int32.reduceLE, Int32.reduceAdd, Int32.reduceSub, Int32.reduceMul, eq_self, Bool.false_eq_true, c2]
    · simp (disch := omega) only [↓reduceIte, ic_t, ic_f, not_true_eq_false, not_false_eq_true, ↓lt_v, rdR, rdE, rdS, leT, leTc, leTd, leF, leFc, leFd, ltT, ltTc, ltTd, ltF, ltFc, ltFd, eqT, eqTc, eqTd, eqF, eqFc, eqFd, m1T, m1F, m1T', m1F', inb_nI, ix_nI, inb_c, ix_c, nI_1, nI_pred, nI_m1, add_nIc, add_cnI, bd_v, reduceCtorEq, eqFcc, m1e0, m1e1, m1l0, m1g0, m2l0, m2g0, Int32.reduceLT, Int32.reduceLE, Int32.reduceAdd, Int32.reduceSub, Int32.reduceMul, eq_self, Bool.false_eq_true, c3]
    · intro j hj
      by_cases e : j = k
      · subst e
        simp (disch := omega) only [↓reduceIte, ic_t, ic_f, not_true_eq_false, not_false_eq_true, ↓lt_v, rdR, rdE, rdS, leT, leTc, leTd, leF, leFc, leFd, ltT, ltTc, ltTd, ltF, ltFc, ltFd, eqT, eqTc, eqTd, eqF, eqFc, eqFd, m1T, m1F, m1T', m1F', inb_nI, ix_nI, inb_c, ix_c, nI_1, nI_pred, nI_m1, add_nIc, add_cnI, bd_v, reduceCtorEq, eqFcc, m1e0, m1e1, m1l0, m1g0, m2l0, m2g0, Int32.reduceLT, Int32.reduceLE, Int32.reduceAdd, Int32.reduceSub, Int32.reduceMul, eq_self, Bool.false_eq_true]
        refine ⟨trivial, ?_⟩
        show (-nI j) * w 18 = (-(w 18)) * nI j
        rw [Int32.neg_mul, Int32.neg_mul, Int32.mul_comm]
      · have n1 : o j ≠ o k := fun q => e (wf_inj hw (by omega) hk q)
        simp (disch := omega) only [↓reduceIte, ic_t, ic_f, not_true_eq_false, not_false_eq_true, ↓lt_v, rdR, rdE, rdS, leT, leTc, leTd, leF, leFc, leFd, ltT, ltTc, ltTd, ltF, ltFc, ltFd, eqT, eqTc, eqTd, eqF, eqFc, eqFd, m1T, m1F, m1T', m1F', inb_nI, ix_nI, inb_c, ix_c, nI_1, nI_pred, nI_m1, add_nIc, add_cnI, bd_v, reduceCtorEq, eqFcc, m1e0, m1e1, m1l0, m1g0, m2l0, m2g0, Int32.reduceLT, Int32.reduceLE, Int32.reduceAdd, Int32.reduceSub, Int32.reduceMul, eq_self, Bool.false_eq_true]
        exact c4 j (by omega)
    · intro i hi
      simp (disch := omega) only [↓reduceIte, ic_t, ic_f, not_true_eq_false, not_false_eq_true, ↓lt_v, rdR, rdE, rdS, leT, leTc, leTd, leF, leFc, leFd, ltT, ltTc, ltTd, ltF, ltFc, ltFd, eqT, eqTc, eqTd, eqF, eqFc, eqFd, m1T, m1F, m1T', m1F', inb_nI, ix_nI, inb_c, ix_c, nI_1, nI_pred, nI_m1, add_nIc, add_cnI, bd_v, reduceCtorEq, eqFcc, m1e0, m1e1, m1l0, m1g0, m2l0, m2g0, Int32.reduceLT, Int32.reduceLE, Int32.reduceAdd, Int32.reduceSub, Int32.reduceMul, eq_self, Bool.false_eq_true, hv1]
  · intro fu s hs
    obtain ⟨⟨c1, c2, c3, c4⟩, hv1, hf⟩ := hs
    rw [e_X10_laysRace_19]
    simp (disch := omega) only [↓reduceIte, ic_t, ic_f, not_true_eq_false, not_false_eq_true, ↓lt_v, rdR, rdE, rdS, leT, leTc, leTd, leF, leFc, leFd, ltT, ltTc, ltTd, ltF, ltFc, ltFd, eqT, eqTc, eqTd, eqF, eqFc, eqFd, m1T, m1F, m1T', m1F', inb_nI, ix_nI, inb_c, ix_c, nI_1, nI_pred, nI_m1, add_nIc, add_cnI, bd_v, reduceCtorEq, eqFcc, m1e0, m1e1, m1l0, m1g0, m2l0, m2g0, Int32.reduceLT, Int32.reduceLE, Int32.reduceAdd, Int32.reduceSub, Int32.reduceMul, eq_self, Bool.false_eq_true, c1]
    refine ok_some ⟨⟨c1, fun k hk => (c4 k hk).1, fun k hk => (c4 k hk).2, ⟨_, b2, c2, fun k hk => ?_, fun b hb hb6 => ?_⟩, c3, fun i hi => absurd hi (Nat.not_lt_zero _)⟩, hf⟩
    · have := ho k hk
      rw [b3 (o k) (by omega), decide_eq_true this]
      rfl
    · rw [b3 b hb6, decide_eq_false (by omega)]
  · simp (disch := omega) only [↓reduceIte, ic_t, ic_f, not_true_eq_false, not_false_eq_true, ↓lt_v, rdR, rdE, rdS, leT, leTc, leTd, leF, leFc, leFd, ltT, ltTc, ltTd, ltF, ltFc, ltFd, eqT, eqTc, eqTd, eqF, eqFc, eqFd, m1T, m1F, m1T', m1F', inb_nI, ix_nI, inb_c, ix_c, nI_1, nI_pred, nI_m1, add_nIc, add_cnI, bd_v, reduceCtorEq, eqFcc, m1e0, m1e1, m1l0, m1g0, m2l0, m2g0, Int32.reduceLT, Int32.reduceLE, Int32.reduceAdd, Int32.reduceSub, Int32.reduceMul, eq_self, Bool.false_eq_true, h0]
  · simp (disch := omega) only [↓reduceIte, ic_t, ic_f, not_true_eq_false, not_false_eq_true, ↓lt_v, rdR, rdE, rdS, leT, leTc, leTd, leF, leFc, leFd, ltT, ltTc, ltTd, ltF, ltFc, ltFd, eqT, eqTc, eqTd, eqF, eqFc, eqFd, m1T, m1F, m1T', m1F', inb_nI, ix_nI, inb_c, ix_c, nI_1, nI_pred, nI_m1, add_nIc, add_cnI, bd_v, reduceCtorEq, eqFcc, m1e0, m1e1, m1l0, m1g0, m2l0, m2g0, Int32.reduceLT, Int32.reduceLE, Int32.reduceAdd, Int32.reduceSub, Int32.reduceMul, eq_self, Bool.false_eq_true]
  · simp (disch := omega) only [↓reduceIte, ic_t, ic_f, not_true_eq_false, not_false_eq_true, ↓lt_v, rdR, rdE, rdS, leT, leTc, leTd, leF, leFc, leFd, ltT, ltTc, ltTd, ltF, ltFc, ltFd, eqT, eqTc, eqTd, eqF, eqFc, eqFd, m1T, m1F, m1T', m1F', inb_nI, ix_nI, inb_c, ix_c, nI_1, nI_pred, nI_m1, add_nIc, add_cnI, bd_v, reduceCtorEq, eqFcc, m1e0, m1e1, m1l0, m1g0, m2l0, m2g0, Int32.reduceLT, Int32.reduceLE, Int32.reduceAdd, Int32.reduceSub, Int32.reduceMul, eq_self, Bool.false_eq_true]
  · intro i hi
    simp (disch := omega) only [↓reduceIte, ic_t, ic_f, not_true_eq_false, not_false_eq_true, ↓lt_v, rdR, rdE, rdS, leT, leTc, leTd, leF, leFc, leFd, ltT, ltTc, ltTd, ltF, ltFc, ltFd, eqT, eqTc, eqTd, eqF, eqFc, eqFd, m1T, m1F, m1T', m1F', inb_nI, ix_nI, inb_c, ix_c, nI_1, nI_pred, nI_m1, add_nIc, add_cnI, bd_v, reduceCtorEq, eqFcc, m1e0, m1e1, m1l0, m1g0, m2l0, m2g0, Int32.reduceLT, Int32.reduceLE, Int32.reduceAdd, Int32.reduceSub, Int32.reduceMul, eq_self, Bool.false_eq_true, hv]
  · unfold PRr ST; repeat (first | exact frR_rfl | refine frR_trans ?_ (frR_sI (by omega) (by omega)))
theorem r_races {M : Mem} {n a st : Nat} {w : Nat → Int32} {o : Nat → Nat} {F : (Nat → Int32) → Int32} (hw : Wf n w o) (hl : ln a = 22) (ha : a < 169 ∨ 184 < a ∨ a = 171 ∨ a = 172) (h0 : M.1 169 3 = nI n) (hv : ∀ i, i < 22 → M.1 a i = w i) (hu : RuR F M) (hst : st ≤ 40) :
    Ok (fX10_races a (nI st) M) (fun M' => RcR n o (rs F w o n st).1 (rs F w o n st).2 M' ∧ FrR PRr ST M M') := by
  have hn := hw.1
  rw [e_X10_races]
  refine ok_call (r_lays hw hl ha h0 hv) (fun M1 h1 => ?_)
  have hFU : 2000 < FU := FU_big
  generalize FU = fu0 at hFU ⊢
  refine ok_loop st (fun fu k s => fX10_races_7 fu a (nI st) (nI k) s) (fun k s => RcR n o (rs F w o n k).1 (rs F w o n k).2 s ∧ FrR PRr ST M s) ?_ ?_ fu0 0 _ (by omega) (by omega) h1
  · intro fu k s hk hs ih
    obtain ⟨hs, hf⟩ := hs
    have hv1 : ∀ i, i < 22 → s.1 a i = w i := by rw [hf.1 a (by omega) (by unfold PRr; omega)]; exact hv
    have hu1 : RuR F s := ruR_fr hu (hf.1 175 (by omega) (by unfold PRr; omega)) (hf.2.1 16 (by unfold ST; omega))
    have hb := bd_rs (F := F) hw k (by omega)
    rw [e_X10_races_7]
    simp (disch := omega) only [↓reduceIte, ic_t, ic_f, not_true_eq_false, not_false_eq_true, ↓lt_v, rdR, rdE, rdS, leT, leTc, leTd, leF, leFc, leFd, ltT, ltTc, ltTd, ltF, ltFc, ltFd, eqT, eqTc, eqTd, eqF, eqFc, eqFd, m1T, m1F, m1T', m1F', inb_nI, ix_nI, inb_c, ix_c, nI_1, nI_pred, nI_m1, add_nIc, add_cnI, bd_v, reduceCtorEq, eqFcc, m1e0, m1e1, m1l0, m1g0, m2l0, m2g0, Int32.reduceLT, Int32.reduceLE, Int32.reduceAdd, Int32.reduceSub, Int32.reduceMul, eq_self, Bool.false_eq_true]
    refine ok_call (r_stroke (t := k) hw (by omega) hl ha hs (ti_rs k) (fun j hj => by have := hb j hj; omega) hv1 hu1) (fun M2 h2 => ?_)
    exact ih _ ⟨h2.1, frR_trans hf h2.2⟩
  · intro fu s hs
    rw [e_X10_races_7]
    simp (disch := omega) only [↓reduceIte, ic_t, ic_f, not_true_eq_false, not_false_eq_true, ↓lt_v, rdR, rdE, rdS, leT, leTc, leTd, leF, leFc, leFd, ltT, ltTc, ltTd, ltF, ltFc, ltFd, eqT, eqTc, eqTd, eqF, eqFc, eqFd, m1T, m1F, m1T', m1F', inb_nI, ix_nI, inb_c, ix_c, nI_1, nI_pred, nI_m1, add_nIc, add_cnI, bd_v, reduceCtorEq, eqFcc, m1e0, m1e1, m1l0, m1g0, m2l0, m2g0, Int32.reduceLT, Int32.reduceLE, Int32.reduceAdd, Int32.reduceSub, Int32.reduceMul, eq_self, Bool.false_eq_true]
    exact ok_some hs
