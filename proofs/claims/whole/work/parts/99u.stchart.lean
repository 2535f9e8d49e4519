/-! PURE: chart -/
def PCC (a : Nat) : Prop := a = 142 ∨ a = 143 ∨ a = 19 ∨ a = 20
def PCR (a : Nat) : Prop := a = 189 ∨ a = 190 ∨ a = 193
theorem r_chcopy {s : Mem} {n j J : Nat} {f : Nat → Nat} {x4 : Int32} {k122 : Int32 → Int32 → Int32 → Int32 → Mem → Option (Int32 × Mem)} {Q : Int32 × Mem → Prop} (hn : n ≤ 6) (hj : j < J) (hj40 : n = 0 ∨ j ≤ 40) (hj80 : j ≤ 80) (h3 : s.1 169 3 = nI n) (hC : ChR n J f s)
    (kk : ∀ s', (∀ k, k < n → s'.1 190 k = nI (f (j * (n + 1) + k) - 48)) → FrR (fun a => a = 190) (fun _ => False) s s' → Ok ((fX10_changesTo 189 190 s').bind fun q29 => ic (0 ≤ q29.1) (fX10_chart_195 k122 (nI J) (nI j) q29.1 q29.1 q29.2) (fX10_chart_195 k122 (nI J) (nI j) q29.1 x4 q29.2)) Q) : Ok (fX10_chart_135 k122 FU (nI J) (nI j) x4 0 s) Q := by
  have hFU : 2000 < FU := FU_big
  generalize FU = fu0 at hFU ⊢
  refine ok_loop n (fun fu k x => fX10_chart_135 k122 fu (nI J) (nI j) x4 (nI k) x) (fun k x => (∀ i, i < k → x.1 190 i = nI (f (j * (n + 1) + i) - 48)) ∧ FrR (fun a => a = 190) (fun _ => False) s x) ?_ ?_ fu0 0 s (by omega) (by omega) ⟨fun i hi => absurd hi (Nat.not_lt_zero _), frR_rfl⟩
  · intro fu k x hk hx ih
    obtain ⟨w1, w2⟩ := hx
    have t3 : x.1 169 3 = nI n := by rw [w2.2.1 3 (fun q => q)]; exact h3
    have hs : x.1 196 (6 * j + k) = nI (f (j * (n + 1) + k) - 48) := by rw [w2.1 196 (by omega) (by omega)]; exact hC j hj k hk
    have e6 : 6 * nI j + nI k = nI (6 * j + k) := by rw [show (6 : Int32) = nI 6 from rfl, pk_mul, nI_add]
    rw [e_X10_chart_135]
    simp (disch := omega) only [↓reduceIte, ic_t, ic_f, not_true_eq_false, not_false_eq_true, ↓lt_v, rdR, rdE, rdS, leT, leTc, leTd, leF, leFc, leFd, ltT, ltTc, ltTd, ltF, ltFc, ltFd, eqT, eqTc, eqTd, eqF, eqFc, eqFd, m1T, m1F, m1T', m1F', inb_nI, ix_nI, inb_c, ix_c, nI_1, nI_pred, nI_m1, add_nIc, add_cnI, bd_v, reduceCtorEq, eqFcc, m1e0, m1e1, m1l0, m1g0, m2l0, m2g0, Int32.reduceLT, Int32.reduceLE, Int32.reduceAdd, Int32.reduceSub, Int32.reduceMul, eq_self, Bool.false_eq_true, t3, e6, hs]
    refine ih _ ⟨fun i hi => ?_, frR_trans w2 (frR_sI (by omega) (by omega))⟩
    by_cases e : i = k
    · subst e; simp (disch := omega) only [↓reduceIte, ic_t, ic_f, not_true_eq_false, not_false_eq_true, ↓lt_v, rdR, rdE, rdS, leT, leTc, leTd, leF, leFc, leFd, ltT, ltTc, ltTd, ltF, ltFc, ltFd, eqT, eqTc, eqTd, eqF, eqFc, eqFd, m1T, m1F, m1T', m1F', inb_nI, ix_nI, inb_c, ix_c, nI_1, nI_pred, nI_m1, add_nIc, add_cnI, bd_v, reduceCtorEq, eqFcc, m1e0, m1e1, m1l0, m1g0, m2l0, m2g0, Int32.reduceLT, Int32.reduceLE, Int32.reduceAdd, Int32.reduceSub, Int32.reduceMul, eq_self, Bool.false_eq_true]
    · simp (disch := omega) only [↓reduceIte, ic_t, ic_f, not_true_eq_false, not_false_eq_true, ↓lt_v, rdR, rdE, rdS, leT, leTc, leTd, leF, leFc, leFd, ltT, ltTc, ltTd, ltF, ltFc, ltFd, eqT, eqTc, eqTd, eqF, eqFc, eqFd, m1T, m1F, m1T', m1F', inb_nI, ix_nI, inb_c, ix_c, nI_1, nI_pred, nI_m1, add_nIc, add_cnI, bd_v, reduceCtorEq, eqFcc, m1e0, m1e1, m1l0, m1g0, m2l0, m2g0, Int32.reduceLT, Int32.reduceLE, Int32.reduceAdd, Int32.reduceSub, Int32.reduceMul, eq_self, Bool.false_eq_true]; exact w1 i (by omega)
  · intro fu x hx
    obtain ⟨w1, w2⟩ := hx
    have t3 : x.1 169 3 = nI n := by rw [w2.2.1 3 (fun q => q)]; exact h3
    rw [e_X10_chart_135]
    simp (disch := omega) only [↓reduceIte, ic_t, ic_f, not_true_eq_false, not_false_eq_true, ↓lt_v, rdR, rdE, rdS, leT, leTc, leTd, leF, leFc, leFd, ltT, ltTc, ltTd, ltF, ltFc, ltFd, eqT, eqTc, eqTd, eqF, eqFc, eqFd, m1T, m1F, m1T', m1F', inb_nI, ix_nI, inb_c, ix_c, nI_1, nI_pred, nI_m1, add_nIc, add_cnI, bd_v, reduceCtorEq, eqFcc, m1e0, m1e1, m1l0, m1g0, m2l0, m2g0, Int32.reduceLT, Int32.reduceLE, Int32.reduceAdd, Int32.reduceSub, Int32.reduceMul, eq_self, Bool.false_eq_true, t3]
    exact kk x w1 w2
theorem r_chback {s : Mem} {n : Nat} {g : Nat → Nat} {x1 x3 x4 x5 : Int32} {k122 : Int32 → Int32 → Int32 → Int32 → Mem → Option (Int32 × Mem)} {Q : Int32 × Mem → Prop} (hn : n ≤ 6) (h3 : s.1 169 3 = nI n) (hg : ∀ k, k < n → s.1 190 k = nI (g k))
    (kk : ∀ s', (∀ k, k < n → s'.1 189 k = nI (g k)) → FrR (fun a => a = 189) (fun _ => False) s s' → Ok (k122 x1 x3 x4 x5 s') Q) : Ok (fX10_chart_216 k122 FU x1 x3 x4 x5 0 s) Q := by
  have hFU : 2000 < FU := FU_big
  generalize FU = fu0 at hFU ⊢
  refine ok_loop n (fun fu k x => fX10_chart_216 k122 fu x1 x3 x4 x5 (nI k) x) (fun k x => (∀ i, i < k → x.1 189 i = nI (g i)) ∧ FrR (fun a => a = 189) (fun _ => False) s x) ?_ ?_ fu0 0 s (by omega) (by omega) ⟨fun i hi => absurd hi (Nat.not_lt_zero _), frR_rfl⟩
  · intro fu k x hk hx ih
    obtain ⟨w1, w2⟩ := hx
    have t3 : x.1 169 3 = nI n := by rw [w2.2.1 3 (fun q => q)]; exact h3
    have hs : x.1 190 k = nI (g k) := by rw [w2.1 190 (by omega) (by omega)]; exact hg k hk
    rw [e_X10_chart_216]
    simp (disch := omega) only [↓reduceIte, ic_t, ic_f, not_true_eq_false, not_false_eq_true, ↓lt_v, rdR, rdE, rdS, leT, leTc, leTd, leF, leFc, leFd, ltT, ltTc, ltTd, ltF, ltFc, ltFd, eqT, eqTc, eqTd, eqF, eqFc, eqFd, m1T, m1F, m1T', m1F', inb_nI, ix_nI, inb_c, ix_c, nI_1, nI_pred, nI_m1, add_nIc, add_cnI, bd_v, reduceCtorEq, eqFcc, m1e0, m1e1, m1l0, m1g0, m2l0, m2g0, Int32.reduceLT, Int32.reduceLE, Int32.reduceAdd, Int32.reduceSub, Int32.reduceMul, eq_self, Bool.false_eq_true, t3, hs]
    refine ih _ ⟨fun i hi => ?_, frR_trans w2 (frR_sI (by omega) (by omega))⟩
    by_cases e : i = k
    · subst e; simp (disch := omega) only [↓reduceIte, ic_t, ic_f, not_true_eq_false, not_false_eq_true, ↓lt_v, rdR, rdE, rdS, leT, leTc, leTd, leF, leFc, leFd, ltT, ltTc, ltTd, ltF, ltFc, ltFd, eqT, eqTc, eqTd, eqF, eqFc, eqFd, m1T, m1F, m1T', m1F', inb_nI, ix_nI, inb_c, ix_c, nI_1, nI_pred, nI_m1, add_nIc, add_cnI, bd_v, reduceCtorEq, eqFcc, m1e0, m1e1, m1l0, m1g0, m2l0, m2g0, Int32.reduceLT, Int32.reduceLE, Int32.reduceAdd, Int32.reduceSub, Int32.reduceMul, eq_self, Bool.false_eq_true]
    · simp (disch := omega) only [↓reduceIte, ic_t, ic_f, not_true_eq_false, not_false_eq_true, ↓lt_v, rdR, rdE, rdS, leT, leTc, leTd, leF, leFc, leFd, ltT, ltTc, ltTd, ltF, ltFc, ltFd, eqT, eqTc, eqTd, eqF, eqFc, eqFd, m1T, m1F, m1T', m1F', inb_nI, ix_nI, inb_c, ix_c, nI_1, nI_pred, nI_m1, add_nIc, add_cnI, bd_v, reduceCtorEq, eqFcc, m1e0, m1e1, m1l0, m1g0, m2l0, m2g0, Int32.reduceLT, Int32.reduceLE, Int32.reduceAdd, Int32.reduceSub, Int32.reduceMul, eq_self, Bool.false_eq_true]; exact w1 i (by omega)
  · intro fu x hx
    obtain ⟨w1, w2⟩ := hx
    have t3 : x.1 169 3 = nI n := by rw [w2.2.1 3 (fun q => q)]; exact h3
    rw [e_X10_chart_216]
    simp (disch := omega) only [↓reduceIte, ic_t, ic_f, not_true_eq_false, not_false_eq_true, ↓lt_v, rdR, rdE, rdS, leT, leTc, leTd, leF, leFc, leFd, ltT, ltTc, ltTd, ltF, ltFc, ltFd, eqT, eqTc, eqTd, eqF, eqFc, eqFd, m1T, m1F, m1T', m1F', inb_nI, ix_nI, inb_c, ix_c, nI_1, nI_pred, nI_m1, add_nIc, add_cnI, bd_v, reduceCtorEq, eqFcc, m1e0, m1e1, m1l0, m1g0, m2l0, m2g0, Int32.reduceLT, Int32.reduceLE, Int32.reduceAdd, Int32.reduceSub, Int32.reduceMul, eq_self, Bool.false_eq_true, t3]
    exact kk x w1 w2
theorem ch_run {L n J : Nat} {f : Nat → Nat} (hn : n ≤ 6) (hL : L ≤ 80) (hJ : J * (n + 1) = L + 1) (hall : ∀ i, i < J → ∀ a, a < n → oG L n f (i * (n + 1)) a) : ∀ d j (o : Nat → Nat) pr0, j + d = J → Prm n o → pr0 ≤ 6 → ∃ G pr, j ≤ G ∧ G ≤ J ∧ pr ≤ 6 ∧
    (∀ (M : Mem) (fu : Nat) (Q : Int32 × Mem → Prop), d + 2 ≤ fu → TxC L f M → M.1 6 0 = nI n → M.1 16 0 = nI n → (∀ k, k < n → M.1 19 (o k) = nI k) → (∀ M2, Fr PCC M M2 → Ok (fX9_chart_141 (nI G) (nI pr) (if G = J then 1 else 0) M2) Q) → Ok (fX9_chart_42 fu (nI j) (nI pr0) 1 (nI (j * (n + 1))) M) Q) ∧
    (∀ (s : Mem) (fu z : Nat) (Q : Int32 × Mem → Prop), d + 2 ≤ fu → z ≤ 100 → s.1 169 3 = nI n → (∀ k, k < n → s.1 189 k = nI (o k)) → ChR n J f s → (∀ s2, FrR PCR (fun _ => False) s s2 → Ok (fX10_chart_248 (nI J) (nI G) (nI pr) s2) Q) → Ok (fX10_chart_122 fu (nI J) (nI j) (nI pr0) (nI z) s) Q) := by
  have hJ81 : J ≤ 81 := by
    have : J ≤ J * (n + 1) := Nat.le_mul_of_pos_right J (by omega)
    omega
  have hJ40 : n = 0 ∨ J ≤ 40 := by
    by_cases c : n = 0
    · exact Or.inl c
    · have : J * 2 ≤ J * (n + 1) := Nat.mul_le_mul_left J (by omega)
      omega
  intro d
  induction d with
  | zero =>
    intro j o pr0 hj ho hpr
    have hj : j = J := hj
    subst hj
    refine ⟨j, pr0, Nat.le_refl _, Nat.le_refl _, hpr, fun M fu Q hfu hT h6 h16 h19 kk => ?_, fun s fu z Q hfu hz h3 hr hC kk => ?_⟩
    · obtain ⟨fu, rfl⟩ : ∃ m, fu = m + 1 := ⟨fu - 1, by omega⟩
      have t2 := hT.2.1
      have := kk M fr_rfl
      rw [if_pos rfl] at this
      rw [e_X9_chart_42, hJ]
      simp (disch := omega) only [↓reduceIte, ic_t, ic_f, not_true_eq_false, not_false_eq_true, ↓lt_v, rdR, rdE, rdS, leT, leTc, leTd, leF, leFc, leFd, ltT, ltTc, ltTd, ltF, ltFc, ltFd, eqT, eqTc, eqTd, eqF, eqFc, eqFd, m1T, m1F, m1T', m1F', inb_nI, ix_nI, inb_c, ix_c, nI_1, nI_pred, nI_m1, add_nIc, add_cnI, bd_v, reduceCtorEq, eqFcc, m1e0, m1e1, m1l0, m1g0, m2l0, m2g0, Int32.reduceLT, Int32.reduceLE, Int32.reduceAdd, Int32.reduceSub, Int32.reduceMul, eq_self, Bool.false_eq_true, t2]
      exact this
    · obtain ⟨fu, rfl⟩ : ∃ m, fu = m + 1 := ⟨fu - 1, by omega⟩
      rw [e_X10_chart_122]
      simp (disch := omega) only [↓reduceIte, ic_t, ic_f, not_true_eq_false, not_false_eq_true, ↓lt_v, rdR, rdE, rdS, leT, leTc, leTd, leF, leFc, leFd, ltT, ltTc, ltTd, ltF, ltFc, ltFd, eqT, eqTc, eqTd, eqF, eqFc, eqFd, m1T, m1F, m1T', m1F', inb_nI, ix_nI, inb_c, ix_c, nI_1, nI_pred, nI_m1, add_nIc, add_cnI, bd_v, reduceCtorEq, eqFcc, m1e0, m1e1, m1l0, m1g0, m2l0, m2g0, Int32.reduceLT, Int32.reduceLE, Int32.reduceAdd, Int32.reduceSub, Int32.reduceMul, eq_self, Bool.false_eq_true]
      exact kk s frR_rfl
  | succ d ih =>
    intro j o pr0 hj ho hpr
    have hjJ : j < J := by omega
    have hps : j * (n + 1) + (n + 1) = (j + 1) * (n + 1) := (Nat.succ_mul j (n + 1)).symm
    have hle : (j + 1) * (n + 1) ≤ J * (n + 1) := Nat.mul_le_mul_right (n + 1) (by omega)
    have hg := oG_prmP (L := L) (p := j * (n + 1)) (f := f) hn (fun i hi => hall j hjJ i hi)
    obtain ⟨oi, a1, a2, a3⟩ := prm_inv ho
    obtain ⟨gi, b1, b2, b3⟩ := prm_inv hg
    have oo : ∀ a, a < n → o (oi a) = a := fun a ha => (a3 a (oi a) ha (a1 a ha)).2 rfl
    have hh : Prm n (fun k => oi (f (j * (n + 1) + k) - 48)) := ⟨fun i hi => a1 _ (hg.1 i hi), fun i i' hi hi' e => hg.2 i i' hi hi' (by
      have e : oi (f (j * (n + 1) + i) - 48) = oi (f (j * (n + 1) + i') - 48) := e
      have q := congrArg o e
      rw [oo _ (hg.1 i hi), oo _ (hg.1 i' hi')] at q
      exact q)⟩
    have hpl := prs_le (n := n) (o := fun k => oi (f (j * (n + 1) + k) - 48))
    have rest : ∀ (s : Mem) (fu z : Nat) (Q : Int32 × Mem → Prop), z ≤ 100 → s.1 169 3 = nI n → (∀ k, k < n → s.1 189 k = nI (o k)) → ChR n J f s → (∀ s2 (y : Int32), y = (if lawB n (fun k => oi (f (j * (n + 1) + k) - 48)) = true then nI (prs n (fun k => oi (f (j * (n + 1) + k) - 48))) else -1) → s2.1 169 3 = nI n → (∀ k, k < n → s2.1 190 k = nI (f (j * (n + 1) + k) - 48)) → ChR n J f s2 → FrR PCR (fun _ => False) s s2 → Ok (ic (0 ≤ y) (fX10_chart_195 (fX10_chart_122 fu) (nI J) (nI j) y y s2) (fX10_chart_195 (fX10_chart_122 fu) (nI J) (nI j) y (nI pr0) s2)) Q) → Ok (fX10_chart_122 (fu + 1) (nI J) (nI j) (nI pr0) (nI z) s) Q := by
      intro s fu z Q hz h3 hr hC kk
      rw [e_X10_chart_122]
      simp (disch := omega) only [↓reduceIte, ic_t, ic_f, not_true_eq_false, not_false_eq_true, ↓lt_v, rdR, rdE, rdS, leT, leTc, leTd, leF, leFc, leFd, ltT, ltTc, ltTd, ltF, ltFc, ltFd, eqT, eqTc, eqTd, eqF, eqFc, eqFd, m1T, m1F, m1T', m1F', inb_nI, ix_nI, inb_c, ix_c, nI_1, nI_pred, nI_m1, add_nIc, add_cnI, bd_v, reduceCtorEq, eqFcc, m1e0, m1e1, m1l0, m1g0, m2l0, m2g0, Int32.reduceLT, Int32.reduceLE, Int32.reduceAdd, Int32.reduceSub, Int32.reduceMul, eq_self, Bool.false_eq_true]
      refine r_chcopy hn hjJ (by omega) (by omega) h3 hC (fun s1 w1 w2 => ?_)
      refine ok_call (r_changes (o := o) (g := fun k => f (j * (n + 1) + k) - 48) (h := fun k => oi (f (j * (n + 1) + k) - 48)) (oi := oi) (gi := gi) hn (by rw [w2.2.1 3 (fun q => q)]; exact h3) ho hg (fun k hk => by rw [w2.1 189 (by omega) (by omega)]; exact hr k hk) w1 b1 b3 hh (fun k hk => oo _ (hg.1 k hk))) (fun q g => ?_)
      obtain ⟨g1, g2⟩ := g
      exact kk q.2 q.1 g1 (by rw [g2.2.1 3 (fun q => q), w2.2.1 3 (fun q => q)]; exact h3) (fun k hk => by rw [g2.1 190 (by omega) (by omega)]; exact w1 k hk) (fun i hi k hk => by rw [g2.1 196 (by omega) (by omega), w2.1 196 (by omega) (by omega)]; exact hC i hi k hk) (frR_trans (frR_sub w2 (fun a _ ha => by unfold PCR; omega) (fun i hi => hi)) (frR_sub g2 (fun a _ ha => by unfold PCR; omega) (fun i hi => hi)))
    have f0 : ∀ N : Mem, fX10_flag 0 N = some (0, N) := fun N => r_flagI (Or.inl rfl)
    have f1 : ∀ N : Mem, fX10_flag 1 N = some (1, N) := fun N => r_flagI (Or.inr rfl)
    have class1 : ∀ (M : Mem) (fu : Nat) (Q : Int32 × Mem → Prop), TxC L f M → M.1 6 0 = nI n → M.1 16 0 = nI n → (∀ k, k < n → M.1 19 (o k) = nI k) → (∀ M2, TxC L f M2 → M2.1 6 0 = nI n → M2.1 16 0 = nI n → (∀ k, k < n → M2.1 142 k = nI (f (j * (n + 1) + k) - 48)) → (∀ k, k < n → M2.1 143 k = nI (oi (f (j * (n + 1) + k) - 48))) → Fr PCC M M2 → Ok ((fX1_isLawful 143 (M2.1 6 0) M2).bind fun q14 => ic (q14.1 = 0) ((lt (nI (j * (n + 1)) + ((q14.2.1 6 0) + 1)) fun y17 => (fX9_chart_42 fu) (nI j) (nI pr0) q14.1 y17 q14.2)) (((fX1_pairsOf 143 (q14.2.1 6 0) q14.2).bind fun q19 => lt (nI j + 1) fun y21 => (fX4_standAs 16 142 q19.2).bind fun q23 => lt (nI (j * (n + 1)) + ((q23.1 6 0) + 1)) fun y25 => (fX9_chart_42 fu) y21 q19.1 q14.1 y25 q23))) Q) → Ok (fX9_chart_42 (fu + 1) (nI j) (nI pr0) 1 (nI (j * (n + 1))) M) Q := by
      intro M fu Q hT h6 h16 h19 kk
      have t2 := hT.2.1
      rw [e_X9_chart_42]
      rw [t2, ic_neg (by rw [lt_nI (by omega) (by omega)]; omega), ic_neg (by decide)]
      refine ok_call (c_readOrder (K := n) (p := j * (n + 1)) hn (by omega) hT h6 (Nat.le_refl _) (fun i hi => hall j hjJ i hi) (Or.inl rfl)) (fun q g => ?_)
      obtain ⟨g1, g2, g3⟩ := g
      refine ok_call (c_relate16 (g := fun k => f (j * (n + 1) + k) - 48) (h := fun k => oi (f (j * (n + 1) + k) - 48)) hn (by rw [g3.1 16 (by omega)]; exact h16) hg.1 g2 (fun i hi => ?_)) (fun M2 w => ?_)
      · rw [g3.1 19 (by omega)]
        have := h19 (oi (f (j * (n + 1) + i) - 48)) (a1 _ (hg.1 i hi))
        rw [oo _ (hg.1 i hi)] at this
        exact this
      · obtain ⟨w1, w2⟩ := w
        exact kk M2 (txC_fr hT (by rw [w2.1 2 (by omega), g3.1 2 (by omega)]) (by rw [w2.1 3 (by omega), g3.1 3 (by omega)])) (by rw [w2.1 6 (by omega), g3.1 6 (by omega)]; exact h6) (by rw [w2.1 16 (by omega), g3.1 16 (by omega)]; exact h16) (fun k hk => by rw [w2.1 142 (by omega)]; exact g2 k hk) w1 (fr_trans (fr_sub g3 (fun a ha => by unfold PCC; omega)) (fr_sub w2 (fun a ha => by unfold PCC; omega)))
    have nx1 : nI (j * (n + 1)) + (nI n + 1) = nI ((j + 1) * (n + 1)) := by rw [add_nIc, nI_add, hps]
    cases cl : lawB n (fun k => oi (f (j * (n + 1) + k) - 48))
    · refine ⟨j, pr0, Nat.le_refl _, by omega, hpr, fun M fu Q hfu hT h6 h16 h19 kk => ?_, fun s fu z Q hfu hz h3 hr hC kk => ?_⟩
      · obtain ⟨fu, rfl⟩ : ∃ m, fu = m + 1 + 1 := ⟨fu - 2, by omega⟩
        refine class1 M (fu + 1) Q hT h6 h16 h19 (fun M2 hT2 k6 k16 k142 k143 hf => ?_)
        have hlaw := c_isLawful (M := M2) hn hh ln143 k143
        have b0 : bI false = 0 := rfl
        rw [k6, hlaw, cl, b0]
        simp (disch := omega) only [↓reduceIte, ic_t, ic_f, not_true_eq_false, not_false_eq_true, ↓lt_v, rdR, rdE, rdS, leT, leTc, leTd, leF, leFc, leFd, ltT, ltTc, ltTd, ltF, ltFc, ltFd, eqT, eqTc, eqTd, eqF, eqFc, eqFd, m1T, m1F, m1T', m1F', inb_nI, ix_nI, inb_c, ix_c, nI_1, nI_pred, nI_m1, add_nIc, add_cnI, bd_v, reduceCtorEq, eqFcc, m1e0, m1e1, m1l0, m1g0, m2l0, m2g0, Int32.reduceLT, Int32.reduceLE, Int32.reduceAdd, Int32.reduceSub, Int32.reduceMul, eq_self, Bool.false_eq_true, k6]
        rw [show nI (j * (n + 1)) + nI (n + 1) = nI ((j + 1) * (n + 1)) by rw [nI_add, hps]]
        have := kk M2 hf
        rw [if_neg (by omega)] at this
        have t2 := hT2.2.1
        rw [e_X9_chart_42, t2]
        by_cases c : L < (j + 1) * (n + 1)
        · simp (disch := omega) only [↓reduceIte, ic_t, ic_f, not_true_eq_false, not_false_eq_true, ↓lt_v, rdR, rdE, rdS, leT, leTc, leTd, leF, leFc, leFd, ltT, ltTc, ltTd, ltF, ltFc, ltFd, eqT, eqTc, eqTd, eqF, eqFc, eqFd, m1T, m1F, m1T', m1F', inb_nI, ix_nI, inb_c, ix_c, nI_1, nI_pred, nI_m1, add_nIc, add_cnI, bd_v, reduceCtorEq, eqFcc, m1e0, m1e1, m1l0, m1g0, m2l0, m2g0, Int32.reduceLT, Int32.reduceLE, Int32.reduceAdd, Int32.reduceSub, Int32.reduceMul, eq_self, Bool.false_eq_true]; exact this
        · simp (disch := omega) only [↓reduceIte, ic_t, ic_f, not_true_eq_false, not_false_eq_true, ↓lt_v, rdR, rdE, rdS, leT, leTc, leTd, leF, leFc, leFd, ltT, ltTc, ltTd, ltF, ltFc, ltFd, eqT, eqTc, eqTd, eqF, eqFc, eqFd, m1T, m1F, m1T', m1F', inb_nI, ix_nI, inb_c, ix_c, nI_1, nI_pred, nI_m1, add_nIc, add_cnI, bd_v, reduceCtorEq, eqFcc, m1e0, m1e1, m1l0, m1g0, m2l0, m2g0, Int32.reduceLT, Int32.reduceLE, Int32.reduceAdd, Int32.reduceSub, Int32.reduceMul, eq_self, Bool.false_eq_true]; exact this
      · obtain ⟨fu, rfl⟩ : ∃ m, fu = m + 1 + 1 := ⟨fu - 2, by omega⟩
        refine rest s (fu + 1) z Q hz h3 hr hC (fun s2 y hy k3 k190 kC hf => ?_)
        rw [cl, if_neg (by decide)] at hy
        rw [hy]
        simp (disch := omega) only [↓reduceIte, ic_t, ic_f, not_true_eq_false, not_false_eq_true, ↓lt_v, rdR, rdE, rdS, leT, leTc, leTd, leF, leFc, leFd, ltT, ltTc, ltTd, ltF, ltFc, ltFd, eqT, eqTc, eqTd, eqF, eqFc, eqFd, m1T, m1F, m1T', m1F', inb_nI, ix_nI, inb_c, ix_c, nI_1, nI_pred, nI_m1, add_nIc, add_cnI, bd_v, reduceCtorEq, eqFcc, m1e0, m1e1, m1l0, m1g0, m2l0, m2g0, Int32.reduceLT, Int32.reduceLE, Int32.reduceAdd, Int32.reduceSub, Int32.reduceMul, eq_self, Bool.false_eq_true, e_X10_chart_195, e_X10_chart_208, f0]
        refine r_chback hn k3 k190 (fun s3 m1 m2 => ?_)
        rw [e_X10_chart_122]
        simp (disch := omega) only [↓reduceIte, ic_t, ic_f, not_true_eq_false, not_false_eq_true, ↓lt_v, rdR, rdE, rdS, leT, leTc, leTd, leF, leFc, leFd, ltT, ltTc, ltTd, ltF, ltFc, ltFd, eqT, eqTc, eqTd, eqF, eqFc, eqFd, m1T, m1F, m1T', m1F', inb_nI, ix_nI, inb_c, ix_c, nI_1, nI_pred, nI_m1, add_nIc, add_cnI, bd_v, reduceCtorEq, eqFcc, m1e0, m1e1, m1l0, m1g0, m2l0, m2g0, Int32.reduceLT, Int32.reduceLE, Int32.reduceAdd, Int32.reduceSub, Int32.reduceMul, eq_self, Bool.false_eq_true]
        exact kk s3 (frR_trans hf (frR_sub m2 (fun a _ ha => by unfold PCR; omega) (fun i hi => hi)))
    · obtain ⟨G, pr, G1, G2, G3, hC1, hR1⟩ := ih (j + 1) (fun k => f (j * (n + 1) + k) - 48) (prs n (fun k => oi (f (j * (n + 1) + k) - 48))) (by omega) hg (by omega)
      refine ⟨G, pr, by omega, G2, G3, fun M fu Q hfu hT h6 h16 h19 kk => ?_, fun s fu z Q hfu hz h3 hr hC kk => ?_⟩
      · obtain ⟨fu, rfl⟩ : ∃ m, fu = m + 1 := ⟨fu - 1, by omega⟩
        refine class1 M fu Q hT h6 h16 h19 (fun M2 hT2 k6 k16 k142 k143 hf => ?_)
        have hlaw := c_isLawful (M := M2) hn hh ln143 k143
        have hprs := c_pairsOf (M := M2) hn hh ln143 k143
        have b1 : bI true = 1 := rfl
        rw [k6, hlaw, cl, b1]
        simp (disch := omega) only [↓reduceIte, ic_t, ic_f, not_true_eq_false, not_false_eq_true, ↓lt_v, rdR, rdE, rdS, leT, leTc, leTd, leF, leFc, leFd, ltT, ltTc, ltTd, ltF, ltFc, ltFd, eqT, eqTc, eqTd, eqF, eqFc, eqFd, m1T, m1F, m1T', m1F', inb_nI, ix_nI, inb_c, ix_c, nI_1, nI_pred, nI_m1, add_nIc, add_cnI, bd_v, reduceCtorEq, eqFcc, m1e0, m1e1, m1l0, m1g0, m2l0, m2g0, Int32.reduceLT, Int32.reduceLE, Int32.reduceAdd, Int32.reduceSub, Int32.reduceMul, eq_self, Bool.false_eq_true, k6, hprs]
        refine ok_call (c_standAs16 hn k16 hg k142) (fun M3 w => ?_)
        obtain ⟨w1, w2⟩ := w
        have t6 : M3.1 6 0 = nI n := by rw [w2.1 6 (by omega)]; exact k6
        rw [t6, add_nIc, nI_add, hps]
        exact hC1 M3 fu Q (by omega) (txC_fr hT2 (w2.1 2 (by omega)) (w2.1 3 (by omega))) t6 (by rw [w2.1 16 (by omega)]; exact k16) w1 (fun M4 m => kk M4 (fr_trans hf (fr_trans (fr_sub w2 (fun a ha => by unfold PCC; omega)) m)))
      · obtain ⟨fu, rfl⟩ : ∃ m, fu = m + 1 := ⟨fu - 1, by omega⟩
        refine rest s fu z Q hz h3 hr hC (fun s2 y hy k3 k190 kC hf => ?_)
        rw [cl, if_pos rfl] at hy
        rw [hy]
        simp (disch := omega) only [↓reduceIte, ic_t, ic_f, not_true_eq_false, not_false_eq_true, ↓lt_v, rdR, rdE, rdS, leT, leTc, leTd, leF, leFc, leFd, ltT, ltTc, ltTd, ltF, ltFc, ltFd, eqT, eqTc, eqTd, eqF, eqFc, eqFd, m1T, m1F, m1T', m1F', inb_nI, ix_nI, inb_c, ix_c, nI_1, nI_pred, nI_m1, add_nIc, add_cnI, bd_v, reduceCtorEq, eqFcc, m1e0, m1e1, m1l0, m1g0, m2l0, m2g0, Int32.reduceLT, Int32.reduceLE, Int32.reduceAdd, Int32.reduceSub, Int32.reduceMul, eq_self, Bool.false_eq_true, e_X10_chart_195, e_X10_chart_208, f1]
        refine r_chback hn k3 k190 (fun s3 m1 m2 => ?_)
        exact hR1 s3 fu _ Q (by omega) (by omega) (by rw [m2.2.1 3 (fun q => q)]; exact k3) m1 (fun i hi k hk => by rw [m2.1 196 (by omega) (by omega)]; exact kC i hi k hk) (fun s4 m => kk s4 (frR_trans hf (frR_trans (frR_sub m2 (fun a _ ha => by unfold PCR; omega) (fun i hi => hi)) m)))
