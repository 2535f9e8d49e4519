/-! PURE: a race, stroke by stroke, by places -/
theorem rd_sI {M : Mem} {a i b j : Nat} {v : Int32} : (sI M a i v).1 b j = if b = a then (if j = i then v else M.1 b j) else M.1 b j := by
  unfold sI up2
  by_cases h : b = a
  · subst h; simp
  · simp [h]
theorem rdR {M : Mem} {a i b j : Nat} {v : Int32} (h : b ≠ a) : (sI M a i v).1 b j = M.1 b j := by rw [rd_sI, if_neg h]
theorem rdE {M : Mem} {a i b j : Nat} {v : Int32} (h : b = a) (h' : j = i) : (sI M a i v).1 b j = v := by rw [rd_sI, if_pos h, if_pos h']
theorem rdS {M : Mem} {a i b j : Nat} {v : Int32} (h : j ≠ i) : (sI M a i v).1 b j = M.1 b j := by
  rw [rd_sI, if_neg h]
  split <;> rfl
theorem sub_nIc {a c : Nat} (h : (OfNat.ofNat c : Nat) ≤ a) : nI a - (no_index (OfNat.ofNat c) : Int32) = nI (a - (OfNat.ofNat c : Nat)) := by
  have h2 : nI a = nI (a - (OfNat.ofNat c : Nat)) + nI c := by rw [nI_add]; congr 1; exact (Nat.sub_add_cancel h).symm
  rw [h2]
  exact Int32.add_sub_cancel _ _
theorem nn01 : ((0 : Int32) &&& 1) = 0 := by decide
theorem nn11 : ((1 : Int32) &&& 1) = 1 := by decide
abbrev TS : Type := (Nat → Bool) × Nat × (Nat → Int32) × (Nat → Int32) × (Nat → Int32)
def off (G : Nat → Bool) (k : Nat) : Nat → Bool := fun j => if j = k then false else G j
def up1 {α : Type} (f : Nat → α) (k : Nat) (v : α) : Nat → α := fun j => if j = k then v else f j
def cnt (G : Nat → Bool) : Nat → Nat
  | 0 => 0
  | k + 1 => cnt G k + (if G k = true then 1 else 0)
theorem cnt_off (G : Nat → Bool) {j : Nat} (hj : G j = true) : ∀ n, cnt (off G j) n + (if j < n then 1 else 0) = cnt G n
  | 0 => by simp [cnt]
  | n + 1 => by
    have ih := cnt_off G hj n
    unfold cnt
    by_cases e : n = j
    · subst e
      simp only [off, hj, if_true] at *
      simp at *
      omega
    · have e1 : off G j n = G n := by simp [off, e]
      rw [e1, ← ih]
      have : (j < n + 1) = (j < n) := propext (by omega)
      simp only [this]
      omega
def tst (o : Nat → Nat) (L : Nat → Int32) (t k : Nat) (T : TS) : TS :=
  if T.1 k = true ∧ na T.1 k ≠ 0 ∧ ¬ (L k < L (na T.1 k - 1)) then
    (off (off T.1 k) (na T.1 k - 1), T.2.1 + 1, up1 T.2.2.1 T.2.1 (nI (t + 1)), up1 T.2.2.2.1 T.2.1 (nI (o k)), up1 T.2.2.2.2 T.2.1 (nI (o (na T.1 k - 1))))
  else T
def tl (o : Nat → Nat) (L : Nat → Int32) (t : Nat) : Nat → TS → TS
  | 0, T => T
  | j + 1, T => tst o L t (j + 1) (tl o L t j T)
def Ti (n : Nat) (T : TS) : Prop := 2 * T.2.1 + cnt T.1 n = n
theorem ti_two {n k : Nat} {T : TS} (h : Ti n T) (hk : k < n) (h1 : T.1 k = true) (h2 : na T.1 k ≠ 0) : 2 * (T.2.1 + 1) + cnt (off (off T.1 k) (na T.1 k - 1)) n = n := by
  have a := cnt_off T.1 h1 n
  have hl := na_le T.1 k
  have hg := na_go T.1 k h2
  have hne : na T.1 k - 1 ≠ k := by omega
  have b := cnt_off (off T.1 k) (j := na T.1 k - 1) (by simp [off, hne, hg]) n
  rw [if_pos hk] at a
  rw [if_pos (by omega)] at b
  unfold Ti at h
  omega
theorem ti_tst {o : Nat → Nat} {L : Nat → Int32} {t n k : Nat} {T : TS} (h : Ti n T) (hk : k < n) : Ti n (tst o L t k T) := by
  unfold tst
  split
  · rename_i c
    exact ti_two h hk c.1 c.2.1
  · exact h
theorem ti_tl {o : Nat → Nat} {L : Nat → Int32} {t n : Nat} {T : TS} (h : Ti n T) : ∀ j, j < n ∨ j = 0 → Ti n (tl o L t j T)
  | 0, _ => h
  | j + 1, hj => ti_tst (ti_tl h j (by omega)) (by omega)
/-- the class's race -/
def RcC (n : Nat) (L : Nat → Int32) (T : TS) (M : Mem) : Prop :=
  M.1 108 0 = nI n ∧ (∀ k, k < n → M.1 109 k = L k) ∧ (∀ k, k < n → M.1 110 k = bI (T.1 k)) ∧ M.1 108 4 = nI (n - 2 * T.2.1) ∧ M.1 108 5 = nI T.2.1 ∧ (∀ i, i < T.2.1 → M.1 112 i = T.2.2.1 i ∧ M.1 113 i = T.2.2.2.1 i ∧ M.1 114 i = T.2.2.2.2 i)
def PRc (a : Nat) : Prop := 108 ≤ a ∧ a ≤ 114 ∧ a ≠ 111
theorem c_touch {M : Mem} {n r t k : Nat} {o : Nat → Nat} {L : Nat → Int32} {T : TS} (hn : n ≤ 6) (ht : t < 1000) (hr : r + 4 < 108 ∨ 114 < r) (hc : RcC n L T M) (hi : Ti n T) (ho : ∀ k, k < n → M.1 (r + 4) k = nI (o k)) (hk : k < n) (h1 : T.1 k = true) (h2 : na T.1 k ≠ 0) (h3 : ¬ L k < L (na T.1 k - 1)) :
    ∃ M', fX3_touch r (nI k) (nI (na T.1 k - 1)) (nI (t + 1)) M = some M' ∧ RcC n L (tst o L t k T) M' ∧ Fr PRc M M' := by
  obtain ⟨c1, c2, c3, c4, c5, c6⟩ := hc
  have hl := na_le T.1 k
  have h4 := ti_two hi hk h1 h2
  unfold tst
  rw [if_pos ⟨h1, h2, h3⟩]
  simp (disch := omega) only [↓reduceIte, ic_t, ic_f, not_true_eq_false, not_false_eq_true, ↓lt_v, rdR, rdE, rdS, leT, leTc, leTd, leF, leFc, leFd, ltT, ltTc, ltTd, ltF, ltFc, ltFd, eqT, eqTc, eqTd, eqF, eqFc, eqFd, m1T, m1F, m1T', m1F', inb_nI, ix_nI, inb_c, ix_c, nI_1, nI_pred, nI_m1, add_nIc, add_cnI, bd_v, reduceCtorEq, eqFcc, m1e0, m1e1, m1l0, m1g0, m2l0, m2g0, Int32.reduceLT, Int32.reduceLE, Int32.reduceAdd, Int32.reduceSub, Int32.reduceMul, eq_self, Bool.false_eq_true, e_X3_touch, c5, nn01]
  refine ⟨_, rfl, ?_, ?_⟩
  · refine ⟨?_, ?_, ?_, ?_, ?_, ?_⟩
    · simp (disch := omega) only [↓reduceIte, ic_t, ic_f, not_true_eq_false, not_false_eq_true, ↓lt_v, rdR, rdE, rdS, leT, leTc, leTd, leF, leFc, leFd, ltT, ltTc, ltTd, ltF, ltFc, ltFd, eqT, eqTc, eqTd, eqF, eqFc, eqFd, m1T, m1F, m1T', m1F', inb_nI, ix_nI, inb_c, ix_c, nI_1, nI_pred, nI_m1, add_nIc, add_cnI, bd_v, reduceCtorEq, eqFcc, m1e0, m1e1, m1l0, m1g0, m2l0, m2g0, Int32.reduceLT, Int32.reduceLE, Int32.reduceAdd, Int32.reduceSub, Int32.reduceMul, eq_self, Bool.false_eq_true, c1]
    · intro j hj
      simp (disch := omega) only [↓reduceIte, ic_t, ic_f, not_true_eq_false, not_false_eq_true, ↓lt_v, rdR, rdE, rdS, leT, leTc, leTd, leF, leFc, leFd, ltT, ltTc, ltTd, ltF, ltFc, ltFd, eqT, eqTc, eqTd, eqF, eqFc, eqFd, m1T, m1F, m1T', m1F', inb_nI, ix_nI, inb_c, ix_c, nI_1, nI_pred, nI_m1, add_nIc, add_cnI, bd_v, reduceCtorEq, eqFcc, m1e0, m1e1, m1l0, m1g0, m2l0, m2g0, Int32.reduceLT, Int32.reduceLE, Int32.reduceAdd, Int32.reduceSub, Int32.reduceMul, eq_self, Bool.false_eq_true, c2]
    · intro j hj
      by_cases e1 : j = na T.1 k - 1
      · simp (disch := omega) only [↓reduceIte, ic_t, ic_f, not_true_eq_false, not_false_eq_true, ↓lt_v, rdR, rdE, rdS, leT, leTc, leTd, leF, leFc, leFd, ltT, ltTc, ltTd, ltF, ltFc, ltFd, eqT, eqTc, eqTd, eqF, eqFc, eqFd, m1T, m1F, m1T', m1F', inb_nI, ix_nI, inb_c, ix_c, nI_1, nI_pred, nI_m1, add_nIc, add_cnI, bd_v, reduceCtorEq, eqFcc, m1e0, m1e1, m1l0, m1g0, m2l0, m2g0, Int32.reduceLT, Int32.reduceLE, Int32.reduceAdd, Int32.reduceSub, Int32.reduceMul, eq_self, Bool.false_eq_true, off, nn01]; simp [e1, bI]
      · by_cases e2 : j = k
        · simp (disch := omega) only [↓reduceIte, ic_t, ic_f, not_true_eq_false, not_false_eq_true, ↓lt_v, rdR, rdE, rdS, leT, leTc, leTd, leF, leFc, leFd, ltT, ltTc, ltTd, ltF, ltFc, ltFd, eqT, eqTc, eqTd, eqF, eqFc, eqFd, m1T, m1F, m1T', m1F', inb_nI, ix_nI, inb_c, ix_c, nI_1, nI_pred, nI_m1, add_nIc, add_cnI, bd_v, reduceCtorEq, eqFcc, m1e0, m1e1, m1l0, m1g0, m2l0, m2g0, Int32.reduceLT, Int32.reduceLE, Int32.reduceAdd, Int32.reduceSub, Int32.reduceMul, eq_self, Bool.false_eq_true, off, nn01]; simp [e1, e2, bI]
        · simp (disch := omega) only [↓reduceIte, ic_t, ic_f, not_true_eq_false, not_false_eq_true, ↓lt_v, rdR, rdE, rdS, leT, leTc, leTd, leF, leFc, leFd, ltT, ltTc, ltTd, ltF, ltFc, ltFd, eqT, eqTc, eqTd, eqF, eqFc, eqFd, m1T, m1F, m1T', m1F', inb_nI, ix_nI, inb_c, ix_c, nI_1, nI_pred, nI_m1, add_nIc, add_cnI, bd_v, reduceCtorEq, eqFcc, m1e0, m1e1, m1l0, m1g0, m2l0, m2g0, Int32.reduceLT, Int32.reduceLE, Int32.reduceAdd, Int32.reduceSub, Int32.reduceMul, eq_self, Bool.false_eq_true, c3, off]; simp [e1, e2]
    · simp (disch := omega) only [↓reduceIte, ic_t, ic_f, not_true_eq_false, not_false_eq_true, ↓lt_v, rdR, rdE, rdS, leT, leTc, leTd, leF, leFc, leFd, ltT, ltTc, ltTd, ltF, ltFc, ltFd, eqT, eqTc, eqTd, eqF, eqFc, eqFd, m1T, m1F, m1T', m1F', inb_nI, ix_nI, inb_c, ix_c, nI_1, nI_pred, nI_m1, add_nIc, add_cnI, bd_v, reduceCtorEq, eqFcc, m1e0, m1e1, m1l0, m1g0, m2l0, m2g0, Int32.reduceLT, Int32.reduceLE, Int32.reduceAdd, Int32.reduceSub, Int32.reduceMul, eq_self, Bool.false_eq_true, c4, sub_nIc]
    · simp (disch := omega) only [↓reduceIte, ic_t, ic_f, not_true_eq_false, not_false_eq_true, ↓lt_v, rdR, rdE, rdS, leT, leTc, leTd, leF, leFc, leFd, ltT, ltTc, ltTd, ltF, ltFc, ltFd, eqT, eqTc, eqTd, eqF, eqFc, eqFd, m1T, m1F, m1T', m1F', inb_nI, ix_nI, inb_c, ix_c, nI_1, nI_pred, nI_m1, add_nIc, add_cnI, bd_v, reduceCtorEq, eqFcc, m1e0, m1e1, m1l0, m1g0, m2l0, m2g0, Int32.reduceLT, Int32.reduceLE, Int32.reduceAdd, Int32.reduceSub, Int32.reduceMul, eq_self, Bool.false_eq_true, c5]
    · intro i hi
      by_cases e : i = T.2.1
      · subst e
        simp (disch := omega) only [↓reduceIte, ic_t, ic_f, not_true_eq_false, not_false_eq_true, ↓lt_v, rdR, rdE, rdS, leT, leTc, leTd, leF, leFc, leFd, ltT, ltTc, ltTd, ltF, ltFc, ltFd, eqT, eqTc, eqTd, eqF, eqFc, eqFd, m1T, m1F, m1T', m1F', inb_nI, ix_nI, inb_c, ix_c, nI_1, nI_pred, nI_m1, add_nIc, add_cnI, bd_v, reduceCtorEq, eqFcc, m1e0, m1e1, m1l0, m1g0, m2l0, m2g0, Int32.reduceLT, Int32.reduceLE, Int32.reduceAdd, Int32.reduceSub, Int32.reduceMul, eq_self, Bool.false_eq_true, up1, ho]
        simp
      · have := c6 i (by simp at hi; omega)
        simp (disch := omega) only [↓reduceIte, ic_t, ic_f, not_true_eq_false, not_false_eq_true, ↓lt_v, rdR, rdE, rdS, leT, leTc, leTd, leF, leFc, leFd, ltT, ltTc, ltTd, ltF, ltFc, ltFd, eqT, eqTc, eqTd, eqF, eqFc, eqFd, m1T, m1F, m1T', m1F', inb_nI, ix_nI, inb_c, ix_c, nI_1, nI_pred, nI_m1, add_nIc, add_cnI, bd_v, reduceCtorEq, eqFcc, m1e0, m1e1, m1l0, m1g0, m2l0, m2g0, Int32.reduceLT, Int32.reduceLE, Int32.reduceAdd, Int32.reduceSub, Int32.reduceMul, eq_self, Bool.false_eq_true, up1, ho]
        simp [e, this]
  · unfold PRc
    exact fr_trans (fr_trans (fr_trans (fr_trans (fr_trans (fr_trans (fr_sI (by omega)) (fr_sI (by omega))) (fr_sI (by omega))) (fr_sI (by omega))) (fr_sI (by omega))) (fr_sI (by omega))) (fr_sI (by omega))
theorem c_touches {M : Mem} {n r t : Nat} {o : Nat → Nat} {L : Nat → Int32} {T : TS} (hn : n ≤ 6) (ht : t < 1000) (hr : r + 4 < 108 ∨ 114 < r) (hc : RcC n L T M) (hi : Ti n T) (ho : ∀ k, k < n → M.1 (r + 4) k = nI (o k)) :
    Ok (fX3_pull_66 FU r (nI t) 1 M) (fun M' => RcC n L (tl o L t (n - 1) T) M' ∧ Fr PRc M M') := by
  refine ok_loop (max n 1) (fun fu k s => fX3_pull_66 fu r (nI t) (nI k) s) (fun k s => 1 ≤ k ∧ RcC n L (tl o L t (k - 1) T) s ∧ Fr PRc M s) ?_ ?_ FU 1 M (by omega) (FU_gt (by omega)) ⟨Nat.le_refl _, hc, fr_rfl⟩
  · intro fu k s hk hs ih
    obtain ⟨hk1, hs, hf⟩ := hs
    have hk2 : k < n := by omega
    have hT := ti_tl (o := o) (L := L) (t := t) hi (k - 1) (by omega)
    have hstep : tl o L t (k + 1 - 1) T = tst o L t k (tl o L t (k - 1) T) := by
      obtain ⟨j, rfl⟩ : ∃ j, k = j + 1 := ⟨k - 1, by omega⟩
      rfl
    rw [hstep] at ih
    generalize tl o L t (k - 1) T = T1 at hs hT ih
    have ho' : ∀ k, k < n → s.1 (r + 4) k = nI (o k) := fun j hj => by rw [hf.1 _ (by unfold PRc; omega)]; exact ho j hj
    have hna := na_le T1.1 k
    have c1 := hs.1
    have c2 := hs.2.1
    have c3 := hs.2.2.1
    have hah := c_nextAhead' (M := s) (G := T1.1) (k := k) hn c3 (by omega)
    simp (disch := omega) only [↓reduceIte, ic_t, ic_f, not_true_eq_false, not_false_eq_true, ↓lt_v, rdR, rdE, rdS, leT, leTc, leTd, leF, leFc, leFd, ltT, ltTc, ltTd, ltF, ltFc, ltFd, eqT, eqTc, eqTd, eqF, eqFc, eqFd, m1T, m1F, m1T', m1F', inb_nI, ix_nI, inb_c, ix_c, nI_1, nI_pred, nI_m1, add_nIc, add_cnI, bd_v, reduceCtorEq, eqFcc, m1e0, m1e1, m1l0, m1g0, m2l0, m2g0, Int32.reduceLT, Int32.reduceLE, Int32.reduceAdd, Int32.reduceSub, Int32.reduceMul, eq_self, Bool.false_eq_true, e_X3_pull_66, c1, c3, bI_0]
    cases hg : T1.1 k
    · simp (disch := omega) only [↓reduceIte, ic_t, ic_f, not_true_eq_false, not_false_eq_true, ↓lt_v, rdR, rdE, rdS, leT, leTc, leTd, leF, leFc, leFd, ltT, ltTc, ltTd, ltF, ltFc, ltFd, eqT, eqTc, eqTd, eqF, eqFc, eqFd, m1T, m1F, m1T', m1F', inb_nI, ix_nI, inb_c, ix_c, nI_1, nI_pred, nI_m1, add_nIc, add_cnI, bd_v, reduceCtorEq, eqFcc, m1e0, m1e1, m1l0, m1g0, m2l0, m2g0, Int32.reduceLT, Int32.reduceLE, Int32.reduceAdd, Int32.reduceSub, Int32.reduceMul, eq_self, Bool.false_eq_true, e_X3_pull_95]
      refine ih _ ⟨by omega, ?_, hf⟩
      unfold tst
      rw [if_neg (by simp [hg])]
      exact hs
    · simp (disch := omega) only [↓reduceIte, ic_t, ic_f, not_true_eq_false, not_false_eq_true, ↓lt_v, rdR, rdE, rdS, leT, leTc, leTd, leF, leFc, leFd, ltT, ltTc, ltTd, ltF, ltFc, ltFd, eqT, eqTc, eqTd, eqF, eqFc, eqFd, m1T, m1F, m1T', m1F', inb_nI, ix_nI, inb_c, ix_c, nI_1, nI_pred, nI_m1, add_nIc, add_cnI, bd_v, reduceCtorEq, eqFcc, m1e0, m1e1, m1l0, m1g0, m2l0, m2g0, Int32.reduceLT, Int32.reduceLE, Int32.reduceAdd, Int32.reduceSub, Int32.reduceMul, eq_self, Bool.false_eq_true, e_X3_pull_95, hah]
      by_cases h0 : na T1.1 k = 0
      · simp (disch := omega) only [↓reduceIte, ic_t, ic_f, not_true_eq_false, not_false_eq_true, ↓lt_v, rdR, rdE, rdS, leT, leTc, leTd, leF, leFc, leFd, ltT, ltTc, ltTd, ltF, ltFc, ltFd, eqT, eqTc, eqTd, eqF, eqFc, eqFd, m1T, m1F, m1T', m1F', inb_nI, ix_nI, inb_c, ix_c, nI_1, nI_pred, nI_m1, add_nIc, add_cnI, bd_v, reduceCtorEq, eqFcc, m1e0, m1e1, m1l0, m1g0, m2l0, m2g0, Int32.reduceLT, Int32.reduceLE, Int32.reduceAdd, Int32.reduceSub, Int32.reduceMul, eq_self, Bool.false_eq_true]
        refine ih _ ⟨by omega, ?_, hf⟩
        unfold tst
        rw [if_neg (by simp [h0])]
        exact hs
      · obtain ⟨a, ha⟩ : ∃ a, na T1.1 k = a + 1 := ⟨na T1.1 k - 1, by omega⟩
        simp (disch := omega) only [↓reduceIte, ic_t, ic_f, not_true_eq_false, not_false_eq_true, ↓lt_v, rdR, rdE, rdS, leT, leTc, leTd, leF, leFc, leFd, ltT, ltTc, ltTd, ltF, ltFc, ltFd, eqT, eqTc, eqTd, eqF, eqFc, eqFd, m1T, m1F, m1T', m1F', inb_nI, ix_nI, inb_c, ix_c, nI_1, nI_pred, nI_m1, add_nIc, add_cnI, bd_v, reduceCtorEq, eqFcc, m1e0, m1e1, m1l0, m1g0, m2l0, m2g0, Int32.reduceLT, Int32.reduceLE, Int32.reduceAdd, Int32.reduceSub, Int32.reduceMul, eq_self, Bool.false_eq_true, ha, c2]
        by_cases h3 : L k < L a
        · rw [ic_pos h3]
          refine ih _ ⟨by omega, ?_, hf⟩
          unfold tst
          rw [if_neg (by simp [ha, h3])]
          exact hs
        · rw [ic_neg h3]
          obtain ⟨M', e1, e2, e3⟩ := c_touch (t := t) hn ht hr hs hT ho' hk2 hg h0 (by rw [ha]; exact h3)
          rw [ha] at e1
          rw [show a + 1 - 1 = a from rfl] at e1
          simp (disch := omega) only [↓reduceIte, ic_t, ic_f, not_true_eq_false, not_false_eq_true, ↓lt_v, rdR, rdE, rdS, leT, leTc, leTd, leF, leFc, leFd, ltT, ltTc, ltTd, ltF, ltFc, ltFd, eqT, eqTc, eqTd, eqF, eqFc, eqFd, m1T, m1F, m1T', m1F', inb_nI, ix_nI, inb_c, ix_c, nI_1, nI_pred, nI_m1, add_nIc, add_cnI, bd_v, reduceCtorEq, eqFcc, m1e0, m1e1, m1l0, m1g0, m2l0, m2g0, Int32.reduceLT, Int32.reduceLE, Int32.reduceAdd, Int32.reduceSub, Int32.reduceMul, eq_self, Bool.false_eq_true, e1]
          exact ih _ ⟨by omega, e2, fr_trans hf e3⟩
  · intro fu s hs
    obtain ⟨_, hs, hf⟩ := hs
    have c1 := hs.1
    simp (disch := omega) only [↓reduceIte, ic_t, ic_f, not_true_eq_false, not_false_eq_true, ↓lt_v, rdR, rdE, rdS, leT, leTc, leTd, leF, leFc, leFd, ltT, ltTc, ltTd, ltF, ltFc, ltFd, eqT, eqTc, eqTd, eqF, eqFc, eqFd, m1T, m1F, m1T', m1F', inb_nI, ix_nI, inb_c, ix_c, nI_1, nI_pred, nI_m1, add_nIc, add_cnI, bd_v, reduceCtorEq, eqFcc, m1e0, m1e1, m1l0, m1g0, m2l0, m2g0, Int32.reduceLT, Int32.reduceLE, Int32.reduceAdd, Int32.reduceSub, Int32.reduceMul, eq_self, Bool.false_eq_true, e_X3_pull_66, c1]
    refine ok_some ⟨?_, hf⟩
    have e : max n 1 - 1 = n - 1 := by omega
    rwa [e] at hs
