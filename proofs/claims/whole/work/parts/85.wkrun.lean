/-! PURE: class and reference do a week -/
theorem wk_run {L K R n : Nat} {f : Nat → Nat} {F : (Nat → Int32) → Int32} (hR : R = 146 ∨ R = 150) (hL : L ≤ 80) (hK : K ≤ 30) (hall : ∀ i, i < K → wE (min L 60) f (wP f i) = none ∧ wP f i < L) (hend : L ≤ wP f K) : ∀ d k (v : VV), k + d = K → WfV n v → ∃ (j : Nat) (v' : VV), k ≤ j ∧ j ≤ K ∧ WfV n v' ∧
    (∀ (M1 : Mem) (fu : Nat) (Q : Int32 × Mem → Prop), d + 2 ≤ fu → RvC 6 n v M1 → TxC L f M1 → M1.2.2 1 17 = R → RuC R F M1 → (∀ M2, RvC 6 n v' M2 → Fr (PDy 6 R) M1 M2 → Ok (fX9_week_114 (nI j) (if j = K then 0 else 1) M2) Q) → Ok (fX9_week_42 fu (nI k) (nI (wP f k)) 0 (nI k) M1) Q) ∧
    (∀ (s : Mem) (fu : Nat) (Q : Int32 × Mem → Prop), d + 1 ≤ fu → s.1 169 3 = nI n → (∀ i, i < 22 → s.1 171 i = v.1 i) → RuR F s → s.1 169 34 = nI K → (∀ i, i < K → s.1 186 i = nI (ki (f (wP f i))) ∧ s.1 187 i = nI (f (wP f i + 1) - 48) ∧ (al (f (wP f i)) = 3 → s.1 188 i = nI (f (wP f i + 2) - 48))) → (∀ s2, (∀ i, i < 22 → s2.1 171 i = v'.1 i) → FrR (PDr 171) SDr s s2 → Ok (fX10_week_88 (nI j) s2) Q) → Ok (fX10_week_64 fu (nI k) s) Q) := by
  have hle := wP_le K (fun i hi => (hall i hi).1)
  intro d
  induction d with
  | zero =>
    intro k v hk hw
    have hk : k = K := hk
    subst hk
    refine ⟨k, v, Nat.le_refl _, Nat.le_refl _, hw, fun M1 fu Q hfu h1 h2 h3 h4 h5 => ?_, fun s fu Q hfu s1 s2 s3 s4 s5 s6 => ?_⟩
    · obtain ⟨fu, rfl⟩ : ∃ m, fu = m + 1 := ⟨fu - 1, by omega⟩
      have e2 := h2.2.1
      have := h5 M1 h1 fr_rfl
      rw [if_pos rfl] at this
      rw [e_X9_week_42]
      simp (disch := omega) only [↓reduceIte, ic_t, ic_f, not_true_eq_false, not_false_eq_true, ↓lt_v, rdR, rdE, rdS, leT, leTc, leTd, leF, leFc, leFd, ltT, ltTc, ltTd, ltF, ltFc, ltFd, eqT, eqTc, eqTd, eqF, eqFc, eqFd, m1T, m1F, m1T', m1F', inb_nI, ix_nI, inb_c, ix_c, nI_1, nI_pred, nI_m1, add_nIc, add_cnI, bd_v, reduceCtorEq, eqFcc, m1e0, m1e1, m1l0, m1g0, m2l0, m2g0, Int32.reduceLT, Int32.reduceLE, Int32.reduceAdd, Int32.reduceSub, Int32.reduceMul, eq_self, Bool.false_eq_true, e2]
      exact this
    · obtain ⟨fu, rfl⟩ : ∃ m, fu = m + 1 := ⟨fu - 1, by omega⟩
      have := s6 s s2 frR_rfl
      rw [e_X10_week_64]
      simp (disch := omega) only [↓reduceIte, ic_t, ic_f, not_true_eq_false, not_false_eq_true, ↓lt_v, rdR, rdE, rdS, leT, leTc, leTd, leF, leFc, leFd, ltT, ltTc, ltTd, ltF, ltFc, ltFd, eqT, eqTc, eqTd, eqF, eqFc, eqFd, m1T, m1F, m1T', m1F', inb_nI, ix_nI, inb_c, ix_c, nI_1, nI_pred, nI_m1, add_nIc, add_cnI, bd_v, reduceCtorEq, eqFcc, m1e0, m1e1, m1l0, m1g0, m2l0, m2g0, Int32.reduceLT, Int32.reduceLE, Int32.reduceAdd, Int32.reduceSub, Int32.reduceMul, eq_self, Bool.false_eq_true, s4]
      exact this
  | succ d ih =>
    intro k v hk hw
    obtain ⟨hk1, hk2⟩ := hall k (by omega)
    obtain ⟨ok, v1, w1, dc, dr⟩ := pr_do (L := L) (F := F) hw hR hk1
    have hb := wE_none hk1
    cases ok
    · refine ⟨k, v1, Nat.le_refl _, by omega, w1, fun M1 fu Q hfu h1 h2 h3 h4 h5 => ?_, fun s fu Q hfu s1 s2 s3 s4 s5 s6 => ?_⟩
      · obtain ⟨fu, rfl⟩ : ∃ m, fu = m + 1 + 1 := ⟨fu - 2, by omega⟩
        have e2 := h2.2.1
        rw [e_X9_week_42]
        simp (disch := omega) only [↓reduceIte, ic_t, ic_f, not_true_eq_false, not_false_eq_true, ↓lt_v, rdR, rdE, rdS, leT, leTc, leTd, leF, leFc, leFd, ltT, ltTc, ltTd, ltF, ltFc, ltFd, eqT, eqTc, eqTd, eqF, eqFc, eqFd, m1T, m1F, m1T', m1F', inb_nI, ix_nI, inb_c, ix_c, nI_1, nI_pred, nI_m1, add_nIc, add_cnI, bd_v, reduceCtorEq, eqFcc, m1e0, m1e1, m1l0, m1g0, m2l0, m2g0, Int32.reduceLT, Int32.reduceLE, Int32.reduceAdd, Int32.reduceSub, Int32.reduceMul, eq_self, Bool.false_eq_true, e2]
        refine ok_call (dc M1 h1 h2 h3 h4) (fun q g => ?_)
        obtain ⟨g1, g2, g3, g4⟩ := g
        have b0 : bI false = 0 := rfl
        have t2 : TxC L f q.2 := txC_fr h2 (g4.1 2 (by unfold PDy; omega)) (g4.1 3 (by unfold PDy; omega))
        obtain ⟨c1, c2⟩ := t2.2.2 (wP f k) (by omega)
        have hal := c_actLength (M := q.2) c1
        have e2' := t2.2.1
        have := h5 q.2 g2 g4
        rw [if_neg (by omega)] at this
        rw [g1, b0]
        simp (disch := omega) only [↓reduceIte, ic_t, ic_f, not_true_eq_false, not_false_eq_true, ↓lt_v, rdR, rdE, rdS, leT, leTc, leTd, leF, leFc, leFd, ltT, ltTc, ltTd, ltF, ltFc, ltFd, eqT, eqTc, eqTd, eqF, eqFc, eqFd, m1T, m1F, m1T', m1F', inb_nI, ix_nI, inb_c, ix_c, nI_1, nI_pred, nI_m1, add_nIc, add_cnI, bd_v, reduceCtorEq, eqFcc, m1e0, m1e1, m1l0, m1g0, m2l0, m2g0, Int32.reduceLT, Int32.reduceLE, Int32.reduceAdd, Int32.reduceSub, Int32.reduceMul, eq_self, Bool.false_eq_true]
        rw [e_X9_week_78]
        simp (disch := omega) only [↓reduceIte, ic_t, ic_f, not_true_eq_false, not_false_eq_true, ↓lt_v, rdR, rdE, rdS, leT, leTc, leTd, leF, leFc, leFd, ltT, ltTc, ltTd, ltF, ltFc, ltFd, eqT, eqTc, eqTd, eqF, eqFc, eqFd, m1T, m1F, m1T', m1F', inb_nI, ix_nI, inb_c, ix_c, nI_1, nI_pred, nI_m1, add_nIc, add_cnI, bd_v, reduceCtorEq, eqFcc, m1e0, m1e1, m1l0, m1g0, m2l0, m2g0, Int32.reduceLT, Int32.reduceLE, Int32.reduceAdd, Int32.reduceSub, Int32.reduceMul, eq_self, Bool.false_eq_true]
        rw [e_X9_week_91]
        simp (disch := omega) only [↓reduceIte, ic_t, ic_f, not_true_eq_false, not_false_eq_true, ↓lt_v, rdR, rdE, rdS, leT, leTc, leTd, leF, leFc, leFd, ltT, ltTc, ltTd, ltF, ltFc, ltFd, eqT, eqTc, eqTd, eqF, eqFc, eqFd, m1T, m1F, m1T', m1F', inb_nI, ix_nI, inb_c, ix_c, nI_1, nI_pred, nI_m1, add_nIc, add_cnI, bd_v, reduceCtorEq, eqFcc, m1e0, m1e1, m1l0, m1g0, m2l0, m2g0, Int32.reduceLT, Int32.reduceLE, Int32.reduceAdd, Int32.reduceSub, Int32.reduceMul, eq_self, Bool.false_eq_true, c2, hal, nI_add]
        rw [e_X9_week_42]
        by_cases c : L ≤ wP f k + al (f (wP f k))
        · simp (disch := omega) only [↓reduceIte, ic_t, ic_f, not_true_eq_false, not_false_eq_true, ↓lt_v, rdR, rdE, rdS, leT, leTc, leTd, leF, leFc, leFd, ltT, ltTc, ltTd, ltF, ltFc, ltFd, eqT, eqTc, eqTd, eqF, eqFc, eqFd, m1T, m1F, m1T', m1F', inb_nI, ix_nI, inb_c, ix_c, nI_1, nI_pred, nI_m1, add_nIc, add_cnI, bd_v, reduceCtorEq, eqFcc, m1e0, m1e1, m1l0, m1g0, m2l0, m2g0, Int32.reduceLT, Int32.reduceLE, Int32.reduceAdd, Int32.reduceSub, Int32.reduceMul, eq_self, Bool.false_eq_true, e2']
          exact this
        · simp (disch := omega) only [↓reduceIte, ic_t, ic_f, not_true_eq_false, not_false_eq_true, ↓lt_v, rdR, rdE, rdS, leT, leTc, leTd, leF, leFc, leFd, ltT, ltTc, ltTd, ltF, ltFc, ltFd, eqT, eqTc, eqTd, eqF, eqFc, eqFd, m1T, m1F, m1T', m1F', inb_nI, ix_nI, inb_c, ix_c, nI_1, nI_pred, nI_m1, add_nIc, add_cnI, bd_v, reduceCtorEq, eqFcc, m1e0, m1e1, m1l0, m1g0, m2l0, m2g0, Int32.reduceLT, Int32.reduceLE, Int32.reduceAdd, Int32.reduceSub, Int32.reduceMul, eq_self, Bool.false_eq_true, e2']
          exact this
      · obtain ⟨fu, rfl⟩ : ∃ m, fu = m + 1 := ⟨fu - 1, by omega⟩
        obtain ⟨q1, q2, q3⟩ := s5 k (by omega)
        rw [e_X10_week_64]
        simp (disch := omega) only [↓reduceIte, ic_t, ic_f, not_true_eq_false, not_false_eq_true, ↓lt_v, rdR, rdE, rdS, leT, leTc, leTd, leF, leFc, leFd, ltT, ltTc, ltTd, ltF, ltFc, ltFd, eqT, eqTc, eqTd, eqF, eqFc, eqFd, m1T, m1F, m1T', m1F', inb_nI, ix_nI, inb_c, ix_c, nI_1, nI_pred, nI_m1, add_nIc, add_cnI, bd_v, reduceCtorEq, eqFcc, m1e0, m1e1, m1l0, m1g0, m2l0, m2g0, Int32.reduceLT, Int32.reduceLE, Int32.reduceAdd, Int32.reduceSub, Int32.reduceMul, eq_self, Bool.false_eq_true, s4]
        refine ok_call (dr s k (by omega) s1 s2 s3 q1 q2 q3) (fun q g => ?_)
        obtain ⟨g1, g2, g3⟩ := g
        have b0 : bI false = 0 := rfl
        rw [g1, b0]
        simp (disch := omega) only [↓reduceIte, ic_t, ic_f, not_true_eq_false, not_false_eq_true, ↓lt_v, rdR, rdE, rdS, leT, leTc, leTd, leF, leFc, leFd, ltT, ltTc, ltTd, ltF, ltFc, ltFd, eqT, eqTc, eqTd, eqF, eqFc, eqFd, m1T, m1F, m1T', m1F', inb_nI, ix_nI, inb_c, ix_c, nI_1, nI_pred, nI_m1, add_nIc, add_cnI, bd_v, reduceCtorEq, eqFcc, m1e0, m1e1, m1l0, m1g0, m2l0, m2g0, Int32.reduceLT, Int32.reduceLE, Int32.reduceAdd, Int32.reduceSub, Int32.reduceMul, eq_self, Bool.false_eq_true]
        exact s6 q.2 g2 g3
    · obtain ⟨j, v', j1, j2, w2, hC, hD⟩ := ih (k + 1) v1 (by omega) w1
      refine ⟨j, v', by omega, j2, w2, fun M1 fu Q hfu h1 h2 h3 h4 h5 => ?_, fun s fu Q hfu s1 s2 s3 s4 s5 s6 => ?_⟩
      · obtain ⟨fu, rfl⟩ : ∃ m, fu = m + 1 := ⟨fu - 1, by omega⟩
        have e2 := h2.2.1
        rw [e_X9_week_42]
        simp (disch := omega) only [↓reduceIte, ic_t, ic_f, not_true_eq_false, not_false_eq_true, ↓lt_v, rdR, rdE, rdS, leT, leTc, leTd, leF, leFc, leFd, ltT, ltTc, ltTd, ltF, ltFc, ltFd, eqT, eqTc, eqTd, eqF, eqFc, eqFd, m1T, m1F, m1T', m1F', inb_nI, ix_nI, inb_c, ix_c, nI_1, nI_pred, nI_m1, add_nIc, add_cnI, bd_v, reduceCtorEq, eqFcc, m1e0, m1e1, m1l0, m1g0, m2l0, m2g0, Int32.reduceLT, Int32.reduceLE, Int32.reduceAdd, Int32.reduceSub, Int32.reduceMul, eq_self, Bool.false_eq_true, e2]
        refine ok_call (dc M1 h1 h2 h3 h4) (fun q g => ?_)
        obtain ⟨g1, g2, g3, g4⟩ := g
        have b1 : bI true = 1 := rfl
        have t2 : TxC L f q.2 := txC_fr h2 (g4.1 2 (by unfold PDy; omega)) (g4.1 3 (by unfold PDy; omega))
        obtain ⟨c1, c2⟩ := t2.2.2 (wP f k) (by omega)
        have hal := c_actLength (M := q.2) c1
        rw [g1, b1]
        simp (disch := omega) only [↓reduceIte, ic_t, ic_f, not_true_eq_false, not_false_eq_true, ↓lt_v, rdR, rdE, rdS, leT, leTc, leTd, leF, leFc, leFd, ltT, ltTc, ltTd, ltF, ltFc, ltFd, eqT, eqTc, eqTd, eqF, eqFc, eqFd, m1T, m1F, m1T', m1F', inb_nI, ix_nI, inb_c, ix_c, nI_1, nI_pred, nI_m1, add_nIc, add_cnI, bd_v, reduceCtorEq, eqFcc, m1e0, m1e1, m1l0, m1g0, m2l0, m2g0, Int32.reduceLT, Int32.reduceLE, Int32.reduceAdd, Int32.reduceSub, Int32.reduceMul, eq_self, Bool.false_eq_true]
        rw [e_X9_week_78]
        simp (disch := omega) only [↓reduceIte, ic_t, ic_f, not_true_eq_false, not_false_eq_true, ↓lt_v, rdR, rdE, rdS, leT, leTc, leTd, leF, leFc, leFd, ltT, ltTc, ltTd, ltF, ltFc, ltFd, eqT, eqTc, eqTd, eqF, eqFc, eqFd, m1T, m1F, m1T', m1F', inb_nI, ix_nI, inb_c, ix_c, nI_1, nI_pred, nI_m1, add_nIc, add_cnI, bd_v, reduceCtorEq, eqFcc, m1e0, m1e1, m1l0, m1g0, m2l0, m2g0, Int32.reduceLT, Int32.reduceLE, Int32.reduceAdd, Int32.reduceSub, Int32.reduceMul, eq_self, Bool.false_eq_true]
        rw [e_X9_week_91]
        simp (disch := omega) only [↓reduceIte, ic_t, ic_f, not_true_eq_false, not_false_eq_true, ↓lt_v, rdR, rdE, rdS, leT, leTc, leTd, leF, leFc, leFd, ltT, ltTc, ltTd, ltF, ltFc, ltFd, eqT, eqTc, eqTd, eqF, eqFc, eqFd, m1T, m1F, m1T', m1F', inb_nI, ix_nI, inb_c, ix_c, nI_1, nI_pred, nI_m1, add_nIc, add_cnI, bd_v, reduceCtorEq, eqFcc, m1e0, m1e1, m1l0, m1g0, m2l0, m2g0, Int32.reduceLT, Int32.reduceLE, Int32.reduceAdd, Int32.reduceSub, Int32.reduceMul, eq_self, Bool.false_eq_true, c2, hal, nI_add]
        exact hC q.2 fu Q (by omega) g2 t2 (by rw [g4.2]; exact h3) g3 (fun M2 m1 m2 => h5 M2 m1 (fr_trans g4 m2))
      · obtain ⟨fu, rfl⟩ : ∃ m, fu = m + 1 := ⟨fu - 1, by omega⟩
        obtain ⟨q1, q2, q3⟩ := s5 k (by omega)
        rw [e_X10_week_64]
        simp (disch := omega) only [↓reduceIte, ic_t, ic_f, not_true_eq_false, not_false_eq_true, ↓lt_v, rdR, rdE, rdS, leT, leTc, leTd, leF, leFc, leFd, ltT, ltTc, ltTd, ltF, ltFc, ltFd, eqT, eqTc, eqTd, eqF, eqFc, eqFd, m1T, m1F, m1T', m1F', inb_nI, ix_nI, inb_c, ix_c, nI_1, nI_pred, nI_m1, add_nIc, add_cnI, bd_v, reduceCtorEq, eqFcc, m1e0, m1e1, m1l0, m1g0, m2l0, m2g0, Int32.reduceLT, Int32.reduceLE, Int32.reduceAdd, Int32.reduceSub, Int32.reduceMul, eq_self, Bool.false_eq_true, s4]
        refine ok_call (dr s k (by omega) s1 s2 s3 q1 q2 q3) (fun q g => ?_)
        obtain ⟨g1, g2, g3⟩ := g
        have b1 : bI true = 1 := rfl
        rw [g1, b1]
        simp (disch := omega) only [↓reduceIte, ic_t, ic_f, not_true_eq_false, not_false_eq_true, ↓lt_v, rdR, rdE, rdS, leT, leTc, leTd, leF, leFc, leFd, ltT, ltTc, ltTd, ltF, ltFc, ltFd, eqT, eqTc, eqTd, eqF, eqFc, eqFd, m1T, m1F, m1T', m1F', inb_nI, ix_nI, inb_c, ix_c, nI_1, nI_pred, nI_m1, add_nIc, add_cnI, bd_v, reduceCtorEq, eqFcc, m1e0, m1e1, m1l0, m1g0, m2l0, m2g0, Int32.reduceLT, Int32.reduceLE, Int32.reduceAdd, Int32.reduceSub, Int32.reduceMul, eq_self, Bool.false_eq_true]
        refine hD q.2 fu Q (by omega) (by rw [g3.2.1 3 (by unfold SDr; omega)]; exact s1) g2 (ruR_fr s3 (g3.1 175 (by omega) (by unfold PDr; omega)) (g3.2.1 16 (by unfold SDr; omega))) (by rw [g3.2.1 34 (by unfold SDr; omega)]; exact s4) (fun i hi => ?_) (fun s2 m1 m2 => s6 s2 m1 (frR_trans g3 m2))
        rw [g3.1 186 (by omega) (by unfold PDr; omega), g3.1 187 (by omega) (by unfold PDr; omega), g3.1 188 (by omega) (by unfold PDr; omega)]
        exact s5 i hi
