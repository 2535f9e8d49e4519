/-! PURE: the class's strokes, races -/
def cl20 (x : Int32) : Int32 := if (0 : Int32) < (if x < (20 : Int32) then x else 20) then (if x < (20 : Int32) then x else 20) else 0
/-- the class's rule: what its feet are -/
def RuC (R : Nat) (F : (Nat → Int32) → Int32) (M : Mem) : Prop :=
  (∀ M' : Mem, M'.1 R = M.1 R → M'.1 (R + 1) = M.1 (R + 1) → Ok (fX6_feet R M') (fun q => q.1 = cl20 (F (M'.1 (R + 2))) ∧ Fr (fun a => a = R + 3) M' q.2)) ∧
  (M.1 R 2 = 0 → ∀ th th' : Nat → Int32, th 0 = th' 0 → th 1 = th' 1 → th 3 = th' 3 → th 6 = th' 6 → F th = F th') ∧
  (∀ th th' : Nat → Int32, (∀ i, i < 7 → th i = th' i) → F th = F th')
theorem ruC_fr {R : Nat} {F : (Nat → Int32) → Int32} {M M' : Mem} (h : RuC R F M) (h1 : M'.1 R = M.1 R) (h2 : M'.1 (R + 1) = M.1 (R + 1)) : RuC R F M' :=
  ⟨fun N a b => h.1 N (a.trans h1) (b.trans h2), by rw [h1]; exact h.2.1, h.2.2⟩
/-- the class's river -/
def RivC (r n : Nat) (w : Nat → Int32) (o : Nat → Nat) (M : Mem) : Prop :=
  M.1 r 0 = nI n ∧ (∀ b, b < n → M.1 (r + 1) b = w b) ∧ (∀ b, b < n → M.1 (r + 2) b = w (6 + b)) ∧ (∀ b, b < n → M.1 (r + 3) b = w (12 + b)) ∧ (∀ k, k < n → M.1 (r + 4) k = nI (o k)) ∧ (M.1 r 5 = w 18 ∧ M.1 r 6 = w 19 ∧ M.1 r 7 = w 20 ∧ M.1 r 8 = w 21)
theorem rivC_fr {r n : Nat} {w : Nat → Int32} {o : Nat → Nat} {M M' : Mem} (h : RivC r n w o M) (hf : ∀ a, r ≤ a → a ≤ r + 4 → M'.1 a = M.1 a) : RivC r n w o M' := by
  unfold RivC
  rw [hf r (by omega) (by omega), hf (r + 1) (by omega) (by omega), hf (r + 2) (by omega) (by omega), hf (r + 3) (by omega) (by omega), hf (r + 4) (by omega) (by omega)]
  exact h
def Wf (n : Nat) (w : Nat → Int32) (o : Nat → Nat) : Prop :=
  n ≤ 6 ∧ (∀ k, k < n → o k < n ∧ w (12 + o k) = nI k) ∧ (∀ b, b < n → ∃ k, k < n ∧ o k = b) ∧ (∃ g, w 18 = nI g ∧ 1 ≤ g ∧ g ≤ 30) ∧ (∃ s, w 19 = nI s ∧ 1 ≤ s ∧ s ≤ 40)
/-- what the rule asks of the boat on a place -/
def thg (w : Nat → Int32) (o : Nat → Nat) (n t : Nat) (L : Nat → Int32) (G : Nat → Bool) (k : Nat) : Nat → Int32 := fun i =>
  if i = 0 then w (o k) else if i = 1 then w (6 + o k) else if i = 2 then nI t else if i = 3 then nI k
  else if i = 4 then (if na G k = 0 then 99 else L (na G k - 1) - L k)
  else if i = 5 then (if nx G n (n - (k + 1)) = 0 then 99 else L k - L (nx G n (n - (k + 1)) - 1))
  else w 20 - w 20 / 7 * 7
def ftg (F : (Nat → Int32) → Int32) (w : Nat → Int32) (o : Nat → Nat) (n t : Nat) (L : Nat → Int32) (G : Nat → Bool) (k : Nat) : Int32 := cl20 (F (thg w o n t L G k))
theorem c_nextBehind' {M : Mem} {G : Nat → Bool} {n k : Nat} (hn : n ≤ 6) (hp : M.1 108 0 = nI n) (hg : ∀ k, k < n → M.1 110 k = bI (G k)) (hk : k < n) : fX3_nextBehind (nI k) M = some (nI (nx G n (n - (k + 1))) - 1, M) := by
  unfold fX3_nextBehind
  have := c_nextBehind hn hp hg (n - (k + 1)) FU (FU_gt (by omega)) (by omega)
  rw [show n - (n - (k + 1)) = k + 1 by omega] at this
  simp (disch := omega) only [↓reduceIte, ic_t, ic_f, not_true_eq_false, not_false_eq_true, ↓lt_v, rdR, rdE, rdS, leT, leTc, leTd, leF, leFc, leFd, ltT, ltTc, ltTd, ltF, ltFc, ltFd, eqT, eqTc, eqTd, eqF, eqFc, eqFd, m1T, m1F, m1T', m1F', inb_nI, ix_nI, inb_c, ix_c, nI_1, nI_pred, nI_m1, add_nIc, add_cnI, bd_v, reduceCtorEq, eqFcc, m1e0, m1e1, m1l0, m1g0, m2l0, m2g0, Int32.reduceLT, Int32.reduceLE, Int32.reduceAdd, Int32.reduceSub, Int32.reduceMul, eq_self, Bool.false_eq_true]
  exact this
def PW (R a : Nat) : Prop := a = 111 ∨ a = R + 2 ∨ a = R + 3
theorem c_weigh {M : Mem} {n r t R : Nat} {w : Nat → Int32} {o : Nat → Nat} {L : Nat → Int32} {T : TS} {F : (Nat → Int32) → Int32} (hw : Wf n w o) (hr : r + 4 < 108 ∨ 153 < r) (hR : R = 146 ∨ R = 150) (hc : RcC n L T M) (hv : RivC r n w o M) (hu : RuC R F M) :
    Ok (fX3_weigh r R (nI t) M) (fun M' => (∀ k, k < n → T.1 k = true → M'.1 111 k = ftg F w o n t L T.1 k) ∧ Fr (PW R) M M') := by
  have hn := hw.1
  unfold fX3_weigh
  have hFU : 2000 < FU := FU_big
  generalize FU = fu0 at hFU ⊢
  refine ok_loop n (fun fu k s => fX3_weigh_3 fu r R (nI t) (nI k) s) (fun k s => (∀ j, j < k → T.1 j = true → s.1 111 j = ftg F w o n t L T.1 j) ∧ Fr (PW R) M s) ?_ ?_ fu0 0 M (by omega) (by omega) ⟨fun j hj => absurd hj (Nat.not_lt_zero _), fr_rfl⟩
  · intro fu k s hk hs ih
    obtain ⟨hs, hf⟩ := hs
    have e : ∀ a, ¬ PW R a → s.1 a = M.1 a := hf.1
    obtain ⟨c1, c2, c3, c4, c5, c6⟩ := hc
    rw [← e 108 (by unfold PW; omega)] at c1
    rw [← e 109 (by unfold PW; omega)] at c2
    rw [← e 110 (by unfold PW; omega)] at c3
    obtain ⟨v1, v2, v3, v4, v5, v6, v7, v8, v9⟩ := hv
    rw [← e (r + 1) (by unfold PW; omega)] at v2
    rw [← e (r + 2) (by unfold PW; omega)] at v3
    rw [← e (r + 4) (by unfold PW; omega)] at v5
    rw [← e r (by unfold PW; omega)] at v8
    have hk' := hw.2.1 k hk
    have hnal := na_le T.1 k
    have hnxl := nx_le T.1 n (n - (k + 1)) (by omega)
    have hah := c_nextAhead' (M := s) (G := T.1) (k := k) hn c3 (by omega)
    have hbh := c_nextBehind' (M := s) (G := T.1) (k := k) hn c1 c3 hk
    rw [e_X3_weigh_3]
    simp (disch := omega) only [↓reduceIte, ic_t, ic_f, not_true_eq_false, not_false_eq_true, ↓lt_v, rdR, rdE, rdS, leT, leTc, leTd, leF, leFc, leFd, ltT, ltTc, ltTd, ltF, ltFc, ltFd, eqT, eqTc, eqTd, eqF, eqFc, eqFd, m1T, m1F, m1T', m1F', inb_nI, ix_nI, inb_c, ix_c, nI_1, nI_pred, nI_m1, add_nIc, add_cnI, bd_v, reduceCtorEq, eqFcc, m1e0, m1e1, m1l0, m1g0, m2l0, m2g0, Int32.reduceLT, Int32.reduceLE, Int32.reduceAdd, Int32.reduceSub, Int32.reduceMul, eq_self, Bool.false_eq_true, c1, c3, bI_0]
    cases hg : T.1 k
    · simp (disch := omega) only [↓reduceIte, ic_t, ic_f, not_true_eq_false, not_false_eq_true, ↓lt_v, rdR, rdE, rdS, leT, leTc, leTd, leF, leFc, leFd, ltT, ltTc, ltTd, ltF, ltFc, ltFd, eqT, eqTc, eqTd, eqF, eqFc, eqFd, m1T, m1F, m1T', m1F', inb_nI, ix_nI, inb_c, ix_c, nI_1, nI_pred, nI_m1, add_nIc, add_cnI, bd_v, reduceCtorEq, eqFcc, m1e0, m1e1, m1l0, m1g0, m2l0, m2g0, Int32.reduceLT, Int32.reduceLE, Int32.reduceAdd, Int32.reduceSub, Int32.reduceMul, eq_self, Bool.false_eq_true]
      refine ih _ ⟨fun j hj hj2 => hs j ?_ hj2, hf⟩
      rcases Nat.lt_or_ge j k with h | h
      · exact h
      · have : j = k := by omega
        subst this
        rw [hg] at hj2
        cases hj2
    · have fin : ∀ (s1 : Mem), Fr (fun a => a = R + 2) s s1 → (∀ i, i < 7 → s1.1 (R + 2) i = thg w o n t L T.1 k i) → Ok ((fX6_feet R s1).bind fun q42 => fX3_weigh_3 fu r R (nI t) (nI (k + 1)) (sI q42.2 111 k q42.1)) (fun M' => (∀ k, k < n → T.1 k = true → M'.1 111 k = ftg F w o n t L T.1 k) ∧ Fr (PW R) M M') := by
        intro s1 hf1 hth
        refine ok_call (hu.1 s1 (by rw [hf1.1 R (by omega), e R (by unfold PW; omega)]) (by rw [hf1.1 (R + 1) (by omega), e (R + 1) (by unfold PW; omega)])) ?_
        intro q hq
        have hf2 : Fr (PW R) s q.2 := fr_trans (fr_sub hf1 (fun a h => by unfold PW; omega)) (fr_sub hq.2 (fun a h => by unfold PW; omega))
        refine ih _ ⟨?_, fr_trans hf (fr_trans hf2 (fr_sI (by unfold PW; omega)))⟩
        intro j hj hgj
        by_cases ej : j = k
        · subst ej
          simp (disch := omega) only [↓reduceIte, ic_t, ic_f, not_true_eq_false, not_false_eq_true, ↓lt_v, rdR, rdE, rdS, leT, leTc, leTd, leF, leFc, leFd, ltT, ltTc, ltTd, ltF, ltFc, ltFd, eqT, eqTc, eqTd, eqF, eqFc, eqFd, m1T, m1F, m1T', m1F', inb_nI, ix_nI, inb_c, ix_c, nI_1, nI_pred, nI_m1, add_nIc, add_cnI, bd_v, reduceCtorEq, eqFcc, m1e0, m1e1, m1l0, m1g0, m2l0, m2g0, Int32.reduceLT, Int32.reduceLE, Int32.reduceAdd, Int32.reduceSub, Int32.reduceMul, eq_self, Bool.false_eq_true, hq.1]
          unfold ftg
          rw [hu.2.2 _ _ hth]
        · simp (disch := omega) only [↓reduceIte, ic_t, ic_f, not_true_eq_false, not_false_eq_true, ↓lt_v, rdR, rdE, rdS, leT, leTc, leTd, leF, leFc, leFd, ltT, ltTc, ltTd, ltF, ltFc, ltFd, eqT, eqTc, eqTd, eqF, eqFc, eqFd, m1T, m1F, m1T', m1F', inb_nI, ix_nI, inb_c, ix_c, nI_1, nI_pred, nI_m1, add_nIc, add_cnI, bd_v, reduceCtorEq, eqFcc, m1e0, m1e1, m1l0, m1g0, m2l0, m2g0, Int32.reduceLT, Int32.reduceLE, Int32.reduceAdd, Int32.reduceSub, Int32.reduceMul, eq_self, Bool.false_eq_true]
          rw [hq.2.1 111 (by omega), hf1.1 111 (by omega)]
          exact hs j (by omega) hgj
      simp (disch := omega) only [↓reduceIte, ic_t, ic_f, not_true_eq_false, not_false_eq_true, ↓lt_v, rdR, rdE, rdS, leT, leTc, leTd, leF, leFc, leFd, ltT, ltTc, ltTd, ltF, ltFc, ltFd, eqT, eqTc, eqTd, eqF, eqFc, eqFd, m1T, m1F, m1T', m1F', inb_nI, ix_nI, inb_c, ix_c, nI_1, nI_pred, nI_m1, add_nIc, add_cnI, bd_v, reduceCtorEq, eqFcc, m1e0, m1e1, m1l0, m1g0, m2l0, m2g0, Int32.reduceLT, Int32.reduceLE, Int32.reduceAdd, Int32.reduceSub, Int32.reduceMul, eq_self, Bool.false_eq_true, v5, hah, hbh, v2, v3]
      by_cases ha0 : na T.1 k = 0
      · by_cases hb0 : nx T.1 n (n - (k + 1)) = 0
        · simp (disch := omega) only [↓reduceIte, ic_t, ic_f, not_true_eq_false, not_false_eq_true, ↓lt_v, rdR, rdE, rdS, leT, leTc, leTd, leF, leFc, leFd, ltT, ltTc, ltTd, ltF, ltFc, ltFd, eqT, eqTc, eqTd, eqF, eqFc, eqFd, m1T, m1F, m1T', m1F', inb_nI, ix_nI, inb_c, ix_c, nI_1, nI_pred, nI_m1, add_nIc, add_cnI, bd_v, reduceCtorEq, eqFcc, m1e0, m1e1, m1l0, m1g0, m2l0, m2g0, Int32.reduceLT, Int32.reduceLE, Int32.reduceAdd, Int32.reduceSub, Int32.reduceMul, eq_self, Bool.false_eq_true, e_X3_weigh_118, e_X3_weigh_149, v8, c2]
          refine fin _ ?_ ?_
          · repeat (first | exact fr_rfl | refine fr_trans ?_ (fr_sI (by omega)))
          · intro i hi
            rcases (show i = 0 ∨ i = 1 ∨ i = 2 ∨ i = 3 ∨ i = 4 ∨ i = 5 ∨ i = 6 by omega) with rfl | rfl | rfl | rfl | rfl | rfl | rfl <;> simp (disch := omega) only [↓reduceIte, ic_t, ic_f, not_true_eq_false, not_false_eq_true, ↓lt_v, rdR, rdE, rdS, leT, leTc, leTd, leF, leFc, leFd, ltT, ltTc, ltTd, ltF, ltFc, ltFd, eqT, eqTc, eqTd, eqF, eqFc, eqFd, m1T, m1F, m1T', m1F', inb_nI, ix_nI, inb_c, ix_c, nI_1, nI_pred, nI_m1, add_nIc, add_cnI, bd_v, reduceCtorEq, eqFcc, m1e0, m1e1, m1l0, m1g0, m2l0, m2g0, Int32.reduceLT, Int32.reduceLE, Int32.reduceAdd, Int32.reduceSub, Int32.reduceMul, eq_self, Bool.false_eq_true] <;> simp [thg, ha0, hb0]
        · obtain ⟨b, hb⟩ : ∃ b, nx T.1 n (n - (k + 1)) = b + 1 := ⟨nx T.1 n (n - (k + 1)) - 1, by omega⟩
          simp (disch := omega) only [↓reduceIte, ic_t, ic_f, not_true_eq_false, not_false_eq_true, ↓lt_v, rdR, rdE, rdS, leT, leTc, leTd, leF, leFc, leFd, ltT, ltTc, ltTd, ltF, ltFc, ltFd, eqT, eqTc, eqTd, eqF, eqFc, eqFd, m1T, m1F, m1T', m1F', inb_nI, ix_nI, inb_c, ix_c, nI_1, nI_pred, nI_m1, add_nIc, add_cnI, bd_v, reduceCtorEq, eqFcc, m1e0, m1e1, m1l0, m1g0, m2l0, m2g0, Int32.reduceLT, Int32.reduceLE, Int32.reduceAdd, Int32.reduceSub, Int32.reduceMul, eq_self, Bool.false_eq_true, hb, e_X3_weigh_118, e_X3_weigh_149, v8, c2]
          refine fin _ ?_ ?_
          · repeat (first | exact fr_rfl | refine fr_trans ?_ (fr_sI (by omega)))
          · intro i hi
            rcases (show i = 0 ∨ i = 1 ∨ i = 2 ∨ i = 3 ∨ i = 4 ∨ i = 5 ∨ i = 6 by omega) with rfl | rfl | rfl | rfl | rfl | rfl | rfl <;> simp (disch := omega) only [↓reduceIte, ic_t, ic_f, not_true_eq_false, not_false_eq_true, ↓lt_v, rdR, rdE, rdS, leT, leTc, leTd, leF, leFc, leFd, ltT, ltTc, ltTd, ltF, ltFc, ltFd, eqT, eqTc, eqTd, eqF, eqFc, eqFd, m1T, m1F, m1T', m1F', inb_nI, ix_nI, inb_c, ix_c, nI_1, nI_pred, nI_m1, add_nIc, add_cnI, bd_v, reduceCtorEq, eqFcc, m1e0, m1e1, m1l0, m1g0, m2l0, m2g0, Int32.reduceLT, Int32.reduceLE, Int32.reduceAdd, Int32.reduceSub, Int32.reduceMul, eq_self, Bool.false_eq_true] <;> simp [thg, ha0, hb]
      · obtain ⟨a, ha⟩ : ∃ a, na T.1 k = a + 1 := ⟨na T.1 k - 1, by omega⟩
        by_cases hb0 : nx T.1 n (n - (k + 1)) = 0
        · simp (disch := omega) only [↓reduceIte, ic_t, ic_f, not_true_eq_false, not_false_eq_true, ↓lt_v, rdR, rdE, rdS, leT, leTc, leTd, leF, leFc, leFd, ltT, ltTc, ltTd, ltF, ltFc, ltFd, eqT, eqTc, eqTd, eqF, eqFc, eqFd, m1T, m1F, m1T', m1F', inb_nI, ix_nI, inb_c, ix_c, nI_1, nI_pred, nI_m1, add_nIc, add_cnI, bd_v, reduceCtorEq, eqFcc, m1e0, m1e1, m1l0, m1g0, m2l0, m2g0, Int32.reduceLT, Int32.reduceLE, Int32.reduceAdd, Int32.reduceSub, Int32.reduceMul, eq_self, Bool.false_eq_true, ha, e_X3_weigh_118, e_X3_weigh_149, v8, c2]
          refine fin _ ?_ ?_
          · repeat (first | exact fr_rfl | refine fr_trans ?_ (fr_sI (by omega)))
          · intro i hi
            rcases (show i = 0 ∨ i = 1 ∨ i = 2 ∨ i = 3 ∨ i = 4 ∨ i = 5 ∨ i = 6 by omega) with rfl | rfl | rfl | rfl | rfl | rfl | rfl <;> simp (disch := omega) only [↓reduceIte, ic_t, ic_f, not_true_eq_false, not_false_eq_true, ↓lt_v, rdR, rdE, rdS, leT, leTc, leTd, leF, leFc, leFd, ltT, ltTc, ltTd, ltF, ltFc, ltFd, eqT, eqTc, eqTd, eqF, eqFc, eqFd, m1T, m1F, m1T', m1F', inb_nI, ix_nI, inb_c, ix_c, nI_1, nI_pred, nI_m1, add_nIc, add_cnI, bd_v, reduceCtorEq, eqFcc, m1e0, m1e1, m1l0, m1g0, m2l0, m2g0, Int32.reduceLT, Int32.reduceLE, Int32.reduceAdd, Int32.reduceSub, Int32.reduceMul, eq_self, Bool.false_eq_true] <;> simp [thg, ha, hb0]
        · obtain ⟨b, hb⟩ : ∃ b, nx T.1 n (n - (k + 1)) = b + 1 := ⟨nx T.1 n (n - (k + 1)) - 1, by omega⟩
          simp (disch := omega) only [↓reduceIte, ic_t, ic_f, not_true_eq_false, not_false_eq_true, ↓lt_v, rdR, rdE, rdS, leT, leTc, leTd, leF, leFc, leFd, ltT, ltTc, ltTd, ltF, ltFc, ltFd, eqT, eqTc, eqTd, eqF, eqFc, eqFd, m1T, m1F, m1T', m1F', inb_nI, ix_nI, inb_c, ix_c, nI_1, nI_pred, nI_m1, add_nIc, add_cnI, bd_v, reduceCtorEq, eqFcc, m1e0, m1e1, m1l0, m1g0, m2l0, m2g0, Int32.reduceLT, Int32.reduceLE, Int32.reduceAdd, Int32.reduceSub, Int32.reduceMul, eq_self, Bool.false_eq_true, ha, hb, e_X3_weigh_118, e_X3_weigh_149, v8, c2]
          refine fin _ ?_ ?_
          · repeat (first | exact fr_rfl | refine fr_trans ?_ (fr_sI (by omega)))
          · intro i hi
            rcases (show i = 0 ∨ i = 1 ∨ i = 2 ∨ i = 3 ∨ i = 4 ∨ i = 5 ∨ i = 6 by omega) with rfl | rfl | rfl | rfl | rfl | rfl | rfl <;> simp (disch := omega) only [↓reduceIte, ic_t, ic_f, not_true_eq_false, not_false_eq_true, ↓lt_v, rdR, rdE, rdS, leT, leTc, leTd, leF, leFc, leFd, ltT, ltTc, ltTd, ltF, ltFc, ltFd, eqT, eqTc, eqTd, eqF, eqFc, eqFd, m1T, m1F, m1T', m1F', inb_nI, ix_nI, inb_c, ix_c, nI_1, nI_pred, nI_m1, add_nIc, add_cnI, bd_v, reduceCtorEq, eqFcc, m1e0, m1e1, m1l0, m1g0, m2l0, m2g0, Int32.reduceLT, Int32.reduceLE, Int32.reduceAdd, Int32.reduceSub, Int32.reduceMul, eq_self, Bool.false_eq_true] <;> simp [thg, ha, hb]
  · intro fu s hs
    obtain ⟨hs, hf⟩ := hs
    have c1 := hc.1
    rw [← hf.1 108 (by unfold PW; omega)] at c1
    rw [e_X3_weigh_3]
    simp (disch := omega) only [↓reduceIte, ic_t, ic_f, not_true_eq_false, not_false_eq_true, ↓lt_v, rdR, rdE, rdS, leT, leTc, leTd, leF, leFc, leFd, ltT, ltTc, ltTd, ltF, ltFc, ltFd, eqT, eqTc, eqTd, eqF, eqFc, eqFd, m1T, m1F, m1T', m1F', inb_nI, ix_nI, inb_c, ix_c, nI_1, nI_pred, nI_m1, add_nIc, add_cnI, bd_v, reduceCtorEq, eqFcc, m1e0, m1e1, m1l0, m1g0, m2l0, m2g0, Int32.reduceLT, Int32.reduceLE, Int32.reduceAdd, Int32.reduceSub, Int32.reduceMul, eq_self, Bool.false_eq_true, c1]
    exact ok_some ⟨hs, hf⟩
