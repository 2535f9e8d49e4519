/-! PURE: closest -/
theorem na_cg {G H : Nat → Bool} : ∀ k, (∀ j, j < k → G j = H j) → na G k = na H k
  | 0, _ => rfl
  | k + 1, h => by
    unfold na
    rw [h k (by omega), na_cg k (fun j hj => h j (by omega))]
theorem na_gap {G : Nat → Bool} : ∀ k i, na G k ≤ i → i < k → G i = false
  | 0, i, _, h => absurd h (Nat.not_lt_zero _)
  | k + 1, i, h1, h2 => by
    unfold na at h1
    cases hg : G k
    · rw [hg] at h1
      simp only [Bool.false_eq_true, if_false] at h1
      by_cases e : i = k
      · subst e; exact hg
      · exact na_gap k i h1 (by omega)
    · rw [hg] at h1
      simp only [if_true] at h1
      omega
/-- who goes is behind the next one ahead -/
def Od (m : Nat) (L : Nat → Int32) (G : Nat → Bool) : Prop := ∀ k, k ≤ m → G k = true → na G k ≠ 0 → L k < L (na G k - 1)
theorem od_tst {o : Nat → Nat} {L : Nat → Int32} {t j : Nat} {T : TS} (h : Od j L T.1) : Od (j + 1) L (tst o L t (j + 1) T).1 := by
  unfold tst
  split
  · rename_i c
    intro k hk hg hna
    have hl := na_le T.1 (j + 1)
    have hg : off (off T.1 (j + 1)) (na T.1 (j + 1) - 1) k = true := hg
    unfold off at hg
    by_cases e1 : k = na T.1 (j + 1) - 1
    · rw [if_pos e1] at hg; cases hg
    · rw [if_neg e1] at hg
      by_cases e2 : k = j + 1
      · rw [if_pos e2] at hg; cases hg
      · rw [if_neg e2] at hg
        have hkl : k < na T.1 (j + 1) - 1 := by
          rcases Nat.lt_or_ge k (na T.1 (j + 1)) with h | h
          · omega
          · rw [na_gap (j + 1) k h (by omega)] at hg; cases hg
        have e : na (off (off T.1 (j + 1)) (na T.1 (j + 1) - 1)) k = na T.1 k := na_cg k (fun i hi => by unfold off; rw [if_neg (by omega), if_neg (by omega)])
        have hna : na (off (off T.1 (j + 1)) (na T.1 (j + 1) - 1)) k ≠ 0 := hna
        show L k < L (na (off (off T.1 (j + 1)) (na T.1 (j + 1) - 1)) k - 1)
        rw [e] at hna ⊢
        exact h k (by omega) hg hna
  · rename_i c
    intro k hk hg hna
    by_cases e : k = j + 1
    · subst e
      by_cases hl : L (j + 1) < L (na T.1 (j + 1) - 1)
      · exact hl
      · exact absurd ⟨hg, hna, hl⟩ c
    · exact h k (by omega) hg hna
theorem od_tl {o : Nat → Nat} {L : Nat → Int32} {t : Nat} {T : TS} : ∀ j, Od j L (tl o L t j T).1
  | 0 => fun k hk _ hna => by
    have : k = 0 := by omega
    subst this
    exact absurd rfl hna
  | j + 1 => od_tst (od_tl j)
theorem od_rs {F : (Nat → Int32) → Int32} {w : Nat → Int32} {o : Nat → Nat} {n : Nat} (hw : Wf n w o) : ∀ t, Od (n - 1) (rs F w o n t).1 (rs F w o n t).2.1
  | 0 => by
    intro k hk _ hna
    have hn := hw.1
    obtain ⟨g, hg, g1, g2⟩ := hw.2.2.2.1
    have hl := na_le (rs F w o n 0).2.1 k
    show (-(w 18)) * nI k < (-(w 18)) * nI (na (rs F w o n 0).2.1 k - 1)
    generalize na (rs F w o n 0).2.1 k = a at hna hl ⊢
    rw [hg]
    have h : ∀ g, g < 31 → ∀ k, k < 6 → ∀ a, a < 7 → (if 1 ≤ g ∧ a ≠ 0 ∧ a ≤ k then decide ((-(nI g)) * nI k < (-(nI g)) * nI (a - 1)) else true) = true := by decide +kernel
    have := h g (by omega) k (by omega) a (by omega)
    rw [if_pos ⟨g1, hna, hl⟩] at this
    exact of_decide_eq_true this
  | t + 1 => od_tl (n - 1)
/-- the closest so far: how many feet, when, whom -/
def clc (T : TS) (a : Nat) : Bool := T.1 a && decide (na T.1 a ≠ 0)
def clB : Option (Int32 × Nat × Nat) → Int32 → Bool
  | none, _ => true
  | some z, d => decide (d < z.1)
def cld (s : RS) (a : Nat) : Int32 := s.1 (na s.2.1 a - 1) - s.1 a
def clS (F : (Nat → Int32) → Int32) (w : Nat → Int32) (o : Nat → Nat) (n a : Nat) : Nat → Option (Int32 × Nat × Nat)
  | 0 => none
  | k + 1 => if (clc (rs F w o n k).2 a && clB (clS F w o n a k) (cld (rs F w o n k) a)) = true then some (cld (rs F w o n k) a, k, o (na (rs F w o n k).2.1 a - 1)) else clS F w o n a k
theorem cld_b {F : (Nat → Int32) → Int32} {w : Nat → Int32} {o : Nat → Nat} {n a t : Nat} (hw : Wf n w o) (ha : a < n) (ht : t ≤ 1000) (hc : clc (rs F w o n t).2 a = true) : (0 : Int32) < cld (rs F w o n t) a ∧ cld (rs F w o n t) a < 1000000 := by
  unfold clc at hc
  simp only [Bool.and_eq_true, decide_eq_true_eq] at hc
  have hl := na_le (rs F w o n t).2.1 a
  have ho := od_rs (F := F) hw t a (by omega) hc.1 hc.2
  have b1 := bd_rs (F := F) hw t ht a ha
  have b2 := bd_rs (F := F) hw t ht (na (rs F w o n t).2.1 a - 1) (by omega)
  unfold cld
  refine ⟨?_, ?_⟩
  · rw [sub_pos32 (by omega) (by omega)]; exact ho
  · rw [Int32.lt_iff_toInt_lt, Int32.toInt_sub, Int.bmod_eq_of_le (by omega) (by omega), show (1000000 : Int32).toInt = 1000000 by decide]
    omega
theorem clS_b {F : (Nat → Int32) → Int32} {w : Nat → Int32} {o : Nat → Nat} {n a : Nat} (hw : Wf n w o) (ha : a < n) : ∀ k, k ≤ 1000 → ∀ z, clS F w o n a k = some z → (0 : Int32) < z.1 ∧ z.1 < 1000000 ∧ z.2.1 < k ∧ z.2.2 < n
  | 0, _, z, h => by cases h
  | k + 1, hk, z, h => by
    unfold clS at h
    by_cases c : (clc (rs F w o n k).2 a && clB (clS F w o n a k) (cld (rs F w o n k) a)) = true
    · rw [if_pos c] at h
      cases h
      simp only [Bool.and_eq_true] at c
      have := cld_b (F := F) hw ha (by omega) c.1
      have hc := c.1
      unfold clc at hc
      simp only [Bool.and_eq_true, decide_eq_true_eq] at hc
      have hl := na_le (rs F w o n k).2.1 a
      exact ⟨this.1, this.2, by show k < k + 1; omega, (hw.2.1 _ (by omega)).1⟩
    · rw [if_neg c] at h
      obtain ⟨h1, h2, h3, h4⟩ := clS_b hw ha k (by omega) z h
      exact ⟨h1, h2, by omega, h4⟩
/-- who goes no more, or alone, comes no closer -/
theorem clS_stay {F : (Nat → Int32) → Int32} {w : Nat → Int32} {o : Nat → Nat} {n a t : Nat} (ha : a < n) (h : ∀ d, clc (rs F w o n (t + d)).2 a = false) : ∀ d, clS F w o n a (t + d) = clS F w o n a t
  | 0 => rfl
  | d + 1 => by
    show (if (clc (rs F w o n (t + d)).2 a && _) = true then _ else _) = _
    rw [h d]
    simp only [Bool.false_and, Bool.false_eq_true, if_false]
    exact clS_stay ha h d
theorem go_off {o : Nat → Nat} {L : Nat → Int32} {t a : Nat} {T : TS} (h : T.1 a = false) : ∀ j, (tl o L t j T).1 a = false
  | 0 => h
  | j + 1 => by
    have ih := go_off (o := o) (L := L) (t := t) h j
    show (tst o L t (j + 1) (tl o L t j T)).1 a = false
    unfold tst
    split
    · show off (off (tl o L t j T).1 (j + 1)) (na (tl o L t j T).1 (j + 1) - 1) a = false
      unfold off
      rw [ih]
      split
      · rfl
      · split <;> rfl
    · exact ih
theorem go_off_rs {F : (Nat → Int32) → Int32} {w : Nat → Int32} {o : Nat → Nat} {n a t : Nat} (h : (rs F w o n t).2.1 a = false) : ∀ d, (rs F w o n (t + d)).2.1 a = false
  | 0 => h
  | d + 1 => go_off (go_off_rs h d) (n - 1)
theorem clc_alone {n a : Nat} {T : TS} (hi : Ti n T) (ha : a < n) (h : n - 2 * T.2.1 ≤ 1) : clc T a = false := by
  unfold clc
  cases hg : T.1 a
  · rfl
  · by_cases h0 : na T.1 a = 0
    · rw [h0]; rfl
    · have := ti_two hi ha hg h0
      omega
def clQ (F : (Nat → Int32) → Int32) (n : Nat) (v : VV) (a : Nat) : Option (Int32 × Nat × Nat) := clS F v.1 v.2 n a (ix (v.1 19) + 1)
def clAns : Option (Int32 × Nat × Nat) → Int32
  | none => -2
  | some z => z.1
def clRow : Option (Int32 × Nat × Nat) → Option (List Int64)
  | none => none
  | some z => some [(nI z.2.1).toInt64, (nI z.2.2).toInt64]
def clC : Option (Int32 × Nat × Nat) → Int32 × Int32 × Int32
  | none => (-1, 0, -1)
  | some z => (z.1, nI z.2.1, nI z.2.2)
def clR : Option (Int32 × Nat × Nat) → Int32 × Int32 × Int32
  | none => (1000000, -1, -1)
  | some z => (z.1, nI z.2.1, nI z.2.2)
theorem c_closest {M : Mem} {n R a : Nat} {v : VV} {F : (Nat → Int32) → Int32} (hc : CR n v F R M) (ha : a < n) : Ok (fX9_closest (nI (v.2 a)) M) (QC (clAns (clQ F n v a)) (clRow (clQ F n v a)) M) := by
  obtain ⟨h1, h2, h3, h4, h5⟩ := hc
  have hn : n ≤ 6 := h1.1
  have hoa : v.2 a < n := (h1.2.1 a ha).1
  have hh := has_in h2.1 hn hoa
  have hpa : M.1 9 (v.2 a) = nI a := (h2.2.2.2.1 _ hoa).trans (h1.2.1 a ha).2
  obtain ⟨st, hst, s1, s2⟩ := h1.2.2.2.2
  have eQ : clQ F n v a = clS F v.1 v.2 n a (st + 1) := by unfold clQ; rw [hst, ix_nI (by omega)]
  rw [eQ, e_X9_closest]
  simp (disch := omega) only [↓reduceIte, ic_t, ic_f, not_true_eq_false, not_false_eq_true, ↓lt_v, rdR, rdE, rdS, leT, leTc, leTd, leF, leFc, leFd, ltT, ltTc, ltTd, ltF, ltFc, ltFd, eqT, eqTc, eqTd, eqF, eqFc, eqFd, m1T, m1F, m1T', m1F', inb_nI, ix_nI, inb_c, ix_c, nI_1, nI_pred, nI_m1, add_nIc, add_cnI, bd_v, reduceCtorEq, eqFcc, m1e0, m1e1, m1l0, m1g0, m2l0, m2g0, Int32.reduceLT, Int32.reduceLE, Int32.reduceAdd, Int32.reduceSub, Int32.reduceMul, eq_self, Bool.false_eq_true, hh, hpa, h4]
  refine ok_call (c_begin h1 (by omega) h5 h2 h3) (fun M1 g => ?_)
  obtain ⟨a1, a2, a3⟩ := g
  have fin : ∀ s : Mem, Fr (PRu R) M s → Ok (fX9_closest_186 (clC (clS F v.1 v.2 n a (st + 1))).1 (clC (clS F v.1 v.2 n a (st + 1))).2.1 (clC (clS F v.1 v.2 n a (st + 1))).2.2 s) (QC (clAns (clS F v.1 v.2 n a (st + 1))) (clRow (clS F v.1 v.2 n a (st + 1))) M) := by
    intro s hf
    have hb := clS_b (F := F) h1 ha (st + 1) (by omega)
    rw [e_X9_closest_186]
    generalize clS F v.1 v.2 n a (st + 1) = z at hb ⊢
    cases z with
    | none =>
      show Ok (ic (0 ≤ (-1 : Int32)) _ _) _
      simp (disch := omega) only [↓reduceIte, ic_t, ic_f, not_true_eq_false, not_false_eq_true, ↓lt_v, rdR, rdE, rdS, leT, leTc, leTd, leF, leFc, leFd, ltT, ltTc, ltTd, ltF, ltFc, ltFd, eqT, eqTc, eqTd, eqF, eqFc, eqFd, m1T, m1F, m1T', m1F', inb_nI, ix_nI, inb_c, ix_c, nI_1, nI_pred, nI_m1, add_nIc, add_cnI, bd_v, reduceCtorEq, eqFcc, m1e0, m1e1, m1l0, m1g0, m2l0, m2g0, Int32.reduceLT, Int32.reduceLE, Int32.reduceAdd, Int32.reduceSub, Int32.reduceMul, eq_self, Bool.false_eq_true]
      exact ok_some (qc_none (fr_SCu hf h5))
    | some z =>
      have hz := (hb z rfl).1
      have hz0 : (0 : Int32) ≤ z.1 := by rw [Int32.lt_iff_toInt_lt] at hz; rw [Int32.le_iff_toInt_le]; omega
      show Ok (ic ((0 : Int32) ≤ z.1) _ _) _
      rw [ic_pos hz0]
      exact ok_call (c_tellB (kc_fr (fr_SCu hf h5))) (fun M2 q => ok_some ⟨rfl, q.1, q.2.1⟩)
  have hFU : 2000 < FU := FU_big
  generalize FU = fu0 at hFU ⊢
  refine ok_loop (st + 1) (fun fu t (s : (Int32 × Int32 × Int32) × Mem) => fX9_closest_49 fu (nI a) s.1.1 s.1.2.1 s.1.2.2 (nI t) s.2) (fun t s => s.1 = clC (clS F v.1 v.2 n a t) ∧ RcC n (rs F v.1 v.2 n t).1 (rs F v.1 v.2 n t).2 s.2 ∧ FtC R F v.1 v.2 n s.2 ∧ Fr (PRu R) M s.2) ?_ ?_ fu0 0 ((-1, 0, -1), M1) (by omega) (by omega) ⟨rfl, a1, a2, a3⟩
  · intro fu t s ht hs ih
    obtain ⟨b0, b1, b2, b3⟩ := hs
    have hv' : RivC 6 n v.1 v.2 s.2 := rivC_fr h2 (fun a h1 h2 => b3.1 a (by unfold PRu; omega))
    have hu' : RuC R F s.2 := ruC_fr h3 (b3.1 R (by unfold PRu; omega)) (b3.1 (R + 1) (by unfold PRu; omega))
    have e66 : s.2.1 6 6 = nI st := hv'.2.2.2.2.2.2.1.trans hst
    have e17 : s.2.2.2 1 17 = R := by rw [b3.2]; exact h4
    have c2 := b1.2.1
    have c3 := b1.2.2.1
    have c4 := b1.2.2.2.1
    have hb := clS_b (F := F) h1 ha t (by omega)
    have stop : (∀ d, clc (rs F v.1 v.2 n (t + d)).2 a = false) → Ok (fX9_closest_186 s.1.1 s.1.2.1 s.1.2.2 s.2) (QC (clAns (clS F v.1 v.2 n a (st + 1))) (clRow (clS F v.1 v.2 n a (st + 1))) M) := by
      intro hall
      have := clS_stay (F := F) (w := v.1) (o := v.2) ha hall (st + 1 - t)
      rw [show t + (st + 1 - t) = st + 1 by omega] at this
      rw [b0, ← this]
      exact fin s.2 b3
    rw [e_X9_closest_49]
    simp (disch := omega) only [↓reduceIte, ic_t, ic_f, not_true_eq_false, not_false_eq_true, ↓lt_v, rdR, rdE, rdS, leT, leTc, leTd, leF, leFc, leFd, ltT, ltTc, ltTd, ltF, ltFc, ltFd, eqT, eqTc, eqTd, eqF, eqFc, eqFd, m1T, m1F, m1T', m1F', inb_nI, ix_nI, inb_c, ix_c, nI_1, nI_pred, nI_m1, add_nIc, add_cnI, bd_v, reduceCtorEq, eqFcc, m1e0, m1e1, m1l0, m1g0, m2l0, m2g0, Int32.reduceLT, Int32.reduceLE, Int32.reduceAdd, Int32.reduceSub, Int32.reduceMul, eq_self, Bool.false_eq_true, e66, c4]
    by_cases hl : n - 2 * (rs F v.1 v.2 n t).2.2.1 ≤ 1
    · simp (disch := omega) only [↓reduceIte, ic_t, ic_f, not_true_eq_false, not_false_eq_true, ↓lt_v, rdR, rdE, rdS, leT, leTc, leTd, leF, leFc, leFd, ltT, ltTc, ltTd, ltF, ltFc, ltFd, eqT, eqTc, eqTd, eqF, eqFc, eqFd, m1T, m1F, m1T', m1F', inb_nI, ix_nI, inb_c, ix_c, nI_1, nI_pred, nI_m1, add_nIc, add_cnI, bd_v, reduceCtorEq, eqFcc, m1e0, m1e1, m1l0, m1g0, m2l0, m2g0, Int32.reduceLT, Int32.reduceLE, Int32.reduceAdd, Int32.reduceSub, Int32.reduceMul, eq_self, Bool.false_eq_true]
      refine stop (fun d => ?_)
      rw [rs_stay hl d]
      exact clc_alone (ti_rs t) ha hl
    · simp (disch := omega) only [↓reduceIte, ic_t, ic_f, not_true_eq_false, not_false_eq_true, ↓lt_v, rdR, rdE, rdS, leT, leTc, leTd, leF, leFc, leFd, ltT, ltTc, ltTd, ltF, ltFc, ltFd, eqT, eqTc, eqTd, eqF, eqFc, eqFd, m1T, m1F, m1T', m1F', inb_nI, ix_nI, inb_c, ix_c, nI_1, nI_pred, nI_m1, add_nIc, add_cnI, bd_v, reduceCtorEq, eqFcc, m1e0, m1e1, m1l0, m1g0, m2l0, m2g0, Int32.reduceLT, Int32.reduceLE, Int32.reduceAdd, Int32.reduceSub, Int32.reduceMul, eq_self, Bool.false_eq_true, c3, bI_0]
      cases hg : (rs F v.1 v.2 n t).2.1 a
      · simp (disch := omega) only [↓reduceIte, ic_t, ic_f, not_true_eq_false, not_false_eq_true, ↓lt_v, rdR, rdE, rdS, leT, leTc, leTd, leF, leFc, leFd, ltT, ltTc, ltTd, ltF, ltFc, ltFd, eqT, eqTc, eqTd, eqF, eqFc, eqFd, m1T, m1F, m1T', m1F', inb_nI, ix_nI, inb_c, ix_c, nI_1, nI_pred, nI_m1, add_nIc, add_cnI, bd_v, reduceCtorEq, eqFcc, m1e0, m1e1, m1l0, m1g0, m2l0, m2g0, Int32.reduceLT, Int32.reduceLE, Int32.reduceAdd, Int32.reduceSub, Int32.reduceMul, eq_self, Bool.false_eq_true]
        refine stop (fun d => ?_)
        unfold clc
        rw [go_off_rs hg d]
        rfl
      · have hnl := na_le (rs F v.1 v.2 n t).2.1 a
        have hah := c_nextAhead' (M := s.2) (G := (rs F v.1 v.2 n t).2.1) (k := a) hn c3 (by omega)
        have hS : clS F v.1 v.2 n a (t + 1) = if (clc (rs F v.1 v.2 n t).2 a && clB (clS F v.1 v.2 n a t) (cld (rs F v.1 v.2 n t) a)) = true then some (cld (rs F v.1 v.2 n t) a, t, v.2 (na (rs F v.1 v.2 n t).2.1 a - 1)) else clS F v.1 v.2 n a t := rfl
        have pullS : ∀ x : Int32 × Int32 × Int32, x = clC (clS F v.1 v.2 n a (t + 1)) → Ok (fX9_closest_163 (fX9_closest_49 fu) (nI a) x.1 x.2.1 x.2.2 (nI t) s.2) (QC (clAns (clS F v.1 v.2 n a (st + 1))) (clRow (clS F v.1 v.2 n a (st + 1))) M) := by
          intro x hx
          rw [e_X9_closest_163, e17]
          refine ok_call (c_pull h1 (by omega) (by omega) h5 b1 (ti_rs t) hv' hu' b2) (fun M2 g2 => ?_)
          simp (disch := omega) only [↓reduceIte, ic_t, ic_f, not_true_eq_false, not_false_eq_true, ↓lt_v, rdR, rdE, rdS, leT, leTc, leTd, leF, leFc, leFd, ltT, ltTc, ltTd, ltF, ltFc, ltFd, eqT, eqTc, eqTd, eqF, eqFc, eqFd, m1T, m1F, m1T', m1F', inb_nI, ix_nI, inb_c, ix_c, nI_1, nI_pred, nI_m1, add_nIc, add_cnI, bd_v, reduceCtorEq, eqFcc, m1e0, m1e1, m1l0, m1g0, m2l0, m2g0, Int32.reduceLT, Int32.reduceLE, Int32.reduceAdd, Int32.reduceSub, Int32.reduceMul, eq_self, Bool.false_eq_true]
          exact ih (x, M2) ⟨hx, g2.1, g2.2.1, fr_trans b3 g2.2.2⟩
        simp (disch := omega) only [↓reduceIte, ic_t, ic_f, not_true_eq_false, not_false_eq_true, ↓lt_v, rdR, rdE, rdS, leT, leTc, leTd, leF, leFc, leFd, ltT, ltTc, ltTd, ltF, ltFc, ltFd, eqT, eqTc, eqTd, eqF, eqFc, eqFd, m1T, m1F, m1T', m1F', inb_nI, ix_nI, inb_c, ix_c, nI_1, nI_pred, nI_m1, add_nIc, add_cnI, bd_v, reduceCtorEq, eqFcc, m1e0, m1e1, m1l0, m1g0, m2l0, m2g0, Int32.reduceLT, Int32.reduceLE, Int32.reduceAdd, Int32.reduceSub, Int32.reduceMul, eq_self, Bool.false_eq_true, hah]
        by_cases h0 : na (rs F v.1 v.2 n t).2.1 a = 0
        · simp (disch := omega) only [↓reduceIte, ic_t, ic_f, not_true_eq_false, not_false_eq_true, ↓lt_v, rdR, rdE, rdS, leT, leTc, leTd, leF, leFc, leFd, ltT, ltTc, ltTd, ltF, ltFc, ltFd, eqT, eqTc, eqTd, eqF, eqFc, eqFd, m1T, m1F, m1T', m1F', inb_nI, ix_nI, inb_c, ix_c, nI_1, nI_pred, nI_m1, add_nIc, add_cnI, bd_v, reduceCtorEq, eqFcc, m1e0, m1e1, m1l0, m1g0, m2l0, m2g0, Int32.reduceLT, Int32.reduceLE, Int32.reduceAdd, Int32.reduceSub, Int32.reduceMul, eq_self, Bool.false_eq_true]
          refine pullS s.1 ?_
          rw [b0, hS, if_neg]
          unfold clc
          rw [h0]
          simp
        · obtain ⟨j, hj⟩ : ∃ j, na (rs F v.1 v.2 n t).2.1 a = j + 1 := ⟨_ - 1, (Nat.sub_add_cancel (by omega)).symm⟩
          have hcc : clc (rs F v.1 v.2 n t).2 a = true := by unfold clc; rw [hg, hj]; rfl
          have hd : cld (rs F v.1 v.2 n t) a = (rs F v.1 v.2 n t).1 j - (rs F v.1 v.2 n t).1 a := by unfold cld; rw [hj, Nat.add_sub_cancel]
          have hbo := c_boatOn (k := j) hn hv' (by omega)
          have upd : clB (clS F v.1 v.2 n a t) (cld (rs F v.1 v.2 n t) a) = true → Ok (fX9_closest_127 (fX9_closest_49 fu) (nI a) (nI t) (nI j) s.2) (QC (clAns (clS F v.1 v.2 n a (st + 1))) (clRow (clS F v.1 v.2 n a (st + 1))) M) := by
            intro hB
            rw [e_X9_closest_127]
            simp (disch := omega) only [↓reduceIte, ic_t, ic_f, not_true_eq_false, not_false_eq_true, ↓lt_v, rdR, rdE, rdS, leT, leTc, leTd, leF, leFc, leFd, ltT, ltTc, ltTd, ltF, ltFc, ltFd, eqT, eqTc, eqTd, eqF, eqFc, eqFd, m1T, m1F, m1T', m1F', inb_nI, ix_nI, inb_c, ix_c, nI_1, nI_pred, nI_m1, add_nIc, add_cnI, bd_v, reduceCtorEq, eqFcc, m1e0, m1e1, m1l0, m1g0, m2l0, m2g0, Int32.reduceLT, Int32.reduceLE, Int32.reduceAdd, Int32.reduceSub, Int32.reduceMul, eq_self, Bool.false_eq_true, c2, hbo]
            refine pullS (_, _, _) ?_
            rw [hS, if_pos (by rw [hcc, hB]; rfl), hd, hj, Nat.add_sub_cancel]
            rfl
          simp (disch := omega) only [↓reduceIte, ic_t, ic_f, not_true_eq_false, not_false_eq_true, ↓lt_v, rdR, rdE, rdS, leT, leTc, leTd, leF, leFc, leFd, ltT, ltTc, ltTd, ltF, ltFc, ltFd, eqT, eqTc, eqTd, eqF, eqFc, eqFd, m1T, m1F, m1T', m1F', inb_nI, ix_nI, inb_c, ix_c, nI_1, nI_pred, nI_m1, add_nIc, add_cnI, bd_v, reduceCtorEq, eqFcc, m1e0, m1e1, m1l0, m1g0, m2l0, m2g0, Int32.reduceLT, Int32.reduceLE, Int32.reduceAdd, Int32.reduceSub, Int32.reduceMul, eq_self, Bool.false_eq_true, hj, c2]
          cases hz : clS F v.1 v.2 n a t with
          | none =>
            rw [hz] at b0 upd
            rw [b0]
            show Ok (ic ((-1 : Int32) < 0) _ _) _
            simp (disch := omega) only [↓reduceIte, ic_t, ic_f, not_true_eq_false, not_false_eq_true, ↓lt_v, rdR, rdE, rdS, leT, leTc, leTd, leF, leFc, leFd, ltT, ltTc, ltTd, ltF, ltFc, ltFd, eqT, eqTc, eqTd, eqF, eqFc, eqFd, m1T, m1F, m1T', m1F', inb_nI, ix_nI, inb_c, ix_c, nI_1, nI_pred, nI_m1, add_nIc, add_cnI, bd_v, reduceCtorEq, eqFcc, m1e0, m1e1, m1l0, m1g0, m2l0, m2g0, Int32.reduceLT, Int32.reduceLE, Int32.reduceAdd, Int32.reduceSub, Int32.reduceMul, eq_self, Bool.false_eq_true]
            exact upd rfl
          | some z =>
            have hz0 := (hb z hz).1
            rw [hz] at b0 upd hS
            have hnl : ¬ z.1 < 0 := fun q => by rw [Int32.lt_iff_toInt_lt] at q hz0; omega
            rw [b0]
            show Ok (ic (z.1 < 0) _ _) _
            rw [ic_neg hnl]
            by_cases hle : z.1 ≤ (rs F v.1 v.2 n t).1 j - (rs F v.1 v.2 n t).1 a
            · show Ok (ic (z.1 ≤ _) _ _) _
              rw [ic_pos hle]
              refine pullS (clC (some z)) ?_
              rw [hS, if_neg]
              rw [hcc, hd]
              show ¬ (true && decide (_ < z.1)) = true
              rw [decide_eq_false]
              · simp
              · intro q
                rw [Int32.lt_iff_toInt_lt] at q
                rw [Int32.le_iff_toInt_le] at hle
                omega
            · show Ok (ic (z.1 ≤ _) _ _) _
              rw [ic_neg hle]
              refine upd ?_
              show decide (_ < z.1) = true
              rw [hd]
              refine decide_eq_true ?_
              rw [Int32.lt_iff_toInt_lt]
              rw [Int32.le_iff_toInt_le] at hle
              omega
  · intro fu s hs
    obtain ⟨b0, b1, b2, b3⟩ := hs
    have e66 : s.2.1 6 6 = nI st := by rw [b3.1 6 (by unfold PRu; omega)]; exact h2.2.2.2.2.2.2.1.trans hst
    rw [e_X9_closest_49]
    simp (disch := omega) only [↓reduceIte, ic_t, ic_f, not_true_eq_false, not_false_eq_true, ↓lt_v, rdR, rdE, rdS, leT, leTc, leTd, leF, leFc, leFd, ltT, ltTc, ltTd, ltF, ltFc, ltFd, eqT, eqTc, eqTd, eqF, eqFc, eqFd, m1T, m1F, m1T', m1F', inb_nI, ix_nI, inb_c, ix_c, nI_1, nI_pred, nI_m1, add_nIc, add_cnI, bd_v, reduceCtorEq, eqFcc, m1e0, m1e1, m1l0, m1g0, m2l0, m2g0, Int32.reduceLT, Int32.reduceLE, Int32.reduceAdd, Int32.reduceSub, Int32.reduceMul, eq_self, Bool.false_eq_true, e66]
    rw [b0]
    exact fin s.2 b3
theorem r_closest {M : Mem} {n a : Nat} {v : VV} {F : (Nat → Int32) → Int32} (hc : RR n v F M) (ha : a < n) : Ok (fX10_closest (nI (v.2 a)) M) (QR (clAns (clQ F n v a)) (clRow (clQ F n v a)) M) := by
  obtain ⟨hc0, hf0⟩ := r_thrown0 hc
  have h1 := hc.1
  have hn : n ≤ 6 := h1.1
  have ho : ∀ k, k < n → v.2 k < n := fun k hk => (h1.2.1 k hk).1
  have hoa := ho a ha
  have hh := r_isBoat_in hc0.2.1 hn hoa
  obtain ⟨st, hst, s1, s2⟩ := h1.2.2.2.2
  have eQ : clQ F n v a = clS F v.1 v.2 n a (st + 1) := by unfold clQ; rw [hst, ix_nI (by omega)]
  rw [eQ, e_X10_closest]
  simp (disch := omega) only [↓reduceIte, ic_t, ic_f, not_true_eq_false, not_false_eq_true, ↓lt_v, rdR, rdE, rdS, leT, leTc, leTd, leF, leFc, leFd, ltT, ltTc, ltTd, ltF, ltFc, ltFd, eqT, eqTc, eqTd, eqF, eqFc, eqFd, m1T, m1F, m1T', m1F', inb_nI, ix_nI, inb_c, ix_c, nI_1, nI_pred, nI_m1, add_nIc, add_cnI, bd_v, reduceCtorEq, eqFcc, m1e0, m1e1, m1l0, m1g0, m2l0, m2g0, Int32.reduceLT, Int32.reduceLE, Int32.reduceAdd, Int32.reduceSub, Int32.reduceMul, eq_self, Bool.false_eq_true, hh]
  refine ok_call (r_lays h1 ln171 (by omega) hc0.2.1 hc0.2.2.1) (fun M1 g => ?_)
  obtain ⟨a1, a2⟩ := g
  have hFU : 2000 < FU := FU_big
  generalize FU = fu0 at hFU ⊢
  refine ok_loop (st + 1) (fun fu t (s : (Int32 × Int32 × Int32) × Mem) => fX10_closest_35 fu (nI (v.2 a)) s.1.1 s.1.2.1 s.1.2.2 (nI t) s.2) (fun t s => s.1 = clR (clS F v.1 v.2 n a t) ∧ RcR n v.2 (rs F v.1 v.2 n t).1 (rs F v.1 v.2 n t).2 s.2 ∧ FrR PRr ST (sI M 169 0 0) s.2) ?_ ?_ fu0 0 ((1000000, -1, -1), M1) (by omega) (by omega) ⟨rfl, a1, a2⟩
  · intro fu t s ht hs ih
    obtain ⟨b0, b1, b3⟩ := hs
    have hcs : RR n v F s.2 := rr_kr hc0 (kr_1 (frR_SRu b3))
    have hv1 := hcs.2.2.1
    have e19 : s.2.1 171 19 = nI st := (hv1 19 (by omega)).trans hst
    have epl : s.2.1 171 (12 + v.2 a) = nI a := (hv1 _ (by omega)).trans (h1.2.1 a ha).2
    have hah := r_nextA' hn ho b1 (Nat.le_of_lt ha)
    have hbh := r_behind hn ho b1 ha
    have hnl := na_le (rs F v.1 v.2 n t).2.1 a
    have hb := clS_b (F := F) h1 ha t (by omega)
    have hhas : ∀ x, x < 64 → s.2.1 169 23 = nI x → x.testBit (v.2 a) = (rs F v.1 v.2 n t).2.1 a → fX10_has (nI x) (nI (v.2 a)) s.2 = some (bI ((rs F v.1 v.2 n t).2.1 a), s.2) := fun x hx _ e => by rw [r_has hx (by omega), e]
    obtain ⟨x, hx, x1, x2, x3⟩ := b1.2.2.2.1
    have hhas := hhas x hx x1 (x2 a ha)
    have c2 := b1.2.1
    have hS : clS F v.1 v.2 n a (t + 1) = if (clc (rs F v.1 v.2 n t).2 a && clB (clS F v.1 v.2 n a t) (cld (rs F v.1 v.2 n t) a)) = true then some (cld (rs F v.1 v.2 n t) a, t, v.2 (na (rs F v.1 v.2 n t).2.1 a - 1)) else clS F v.1 v.2 n a t := rfl
    have bd := bd_rs (F := F) h1 t (by omega)
    have go : ∀ y : Int32 × Int32 × Int32, y = clR (clS F v.1 v.2 n a (t + 1)) → Ok (fX10_closest_155 (fX10_closest_35 fu) (nI (v.2 a)) y.1 y.2.1 (nI t) y.2.2 s.2) (QR (clAns (clS F v.1 v.2 n a (st + 1))) (clRow (clS F v.1 v.2 n a (st + 1))) M) := by
      intro y hy
      rw [e_X10_closest_155]
      refine ok_call (r_stroke (t := t) h1 (by omega) ln171 (by omega) b1 (ti_rs t) (fun j hj => by have := bd j hj; omega) hv1 hcs.2.2.2) (fun M2 g2 => ?_)
      simp (disch := omega) only [↓reduceIte, ic_t, ic_f, not_true_eq_false, not_false_eq_true, ↓lt_v, rdR, rdE, rdS, leT, leTc, leTd, leF, leFc, leFd, ltT, ltTc, ltTd, ltF, ltFc, ltFd, eqT, eqTc, eqTd, eqF, eqFc, eqFd, m1T, m1F, m1T', m1F', inb_nI, ix_nI, inb_c, ix_c, nI_1, nI_pred, nI_m1, add_nIc, add_cnI, bd_v, reduceCtorEq, eqFcc, m1e0, m1e1, m1l0, m1g0, m2l0, m2g0, Int32.reduceLT, Int32.reduceLE, Int32.reduceAdd, Int32.reduceSub, Int32.reduceMul, eq_self, Bool.false_eq_true]
      exact ih (y, M2) ⟨hy, g2.1, frR_trans b3 g2.2⟩
    have no : ∀ q : Int32, clS F v.1 v.2 n a (t + 1) = clS F v.1 v.2 n a t → Ok (fX10_closest_100 (fX10_closest_35 fu) (nI (v.2 a)) s.1.1 s.1.2.1 s.1.2.2 (nI t) q s.2) (QR (clAns (clS F v.1 v.2 n a (st + 1))) (clRow (clS F v.1 v.2 n a (st + 1))) M) := by
      intro q he
      rw [e_X10_closest_100, e_X10_closest_101]
      simp (disch := omega) only [↓reduceIte, ic_t, ic_f, not_true_eq_false, not_false_eq_true, ↓lt_v, rdR, rdE, rdS, leT, leTc, leTd, leF, leFc, leFd, ltT, ltTc, ltTd, ltF, ltFc, ltFd, eqT, eqTc, eqTd, eqF, eqFc, eqFd, m1T, m1F, m1T', m1F', inb_nI, ix_nI, inb_c, ix_c, nI_1, nI_pred, nI_m1, add_nIc, add_cnI, bd_v, reduceCtorEq, eqFcc, m1e0, m1e1, m1l0, m1g0, m2l0, m2g0, Int32.reduceLT, Int32.reduceLE, Int32.reduceAdd, Int32.reduceSub, Int32.reduceMul, eq_self, Bool.false_eq_true, e_X10_closest_125, e_X10_closest_137]
      exact go s.1 (by rw [he]; exact b0)
    rw [e_X10_closest_35]
    simp (disch := omega) only [↓reduceIte, ic_t, ic_f, not_true_eq_false, not_false_eq_true, ↓lt_v, rdR, rdE, rdS, leT, leTc, leTd, leF, leFc, leFd, ltT, ltTc, ltTd, ltF, ltFc, ltFd, eqT, eqTc, eqTd, eqF, eqFc, eqFd, m1T, m1F, m1T', m1F', inb_nI, ix_nI, inb_c, ix_c, nI_1, nI_pred, nI_m1, add_nIc, add_cnI, bd_v, reduceCtorEq, eqFcc, m1e0, m1e1, m1l0, m1g0, m2l0, m2g0, Int32.reduceLT, Int32.reduceLE, Int32.reduceAdd, Int32.reduceSub, Int32.reduceMul, eq_self, Bool.false_eq_true, e19, epl, hah, x1, hhas, bI_0]
    cases hg : (rs F v.1 v.2 n t).2.1 a
    · simp (disch := omega) only [↓reduceIte, ic_t, ic_f, not_true_eq_false, not_false_eq_true, ↓lt_v, rdR, rdE, rdS, leT, leTc, leTd, leF, leFc, leFd, ltT, ltTc, ltTd, ltF, ltFc, ltFd, eqT, eqTc, eqTd, eqF, eqFc, eqFd, m1T, m1F, m1T', m1F', inb_nI, ix_nI, inb_c, ix_c, nI_1, nI_pred, nI_m1, add_nIc, add_cnI, bd_v, reduceCtorEq, eqFcc, m1e0, m1e1, m1l0, m1g0, m2l0, m2g0, Int32.reduceLT, Int32.reduceLE, Int32.reduceAdd, Int32.reduceSub, Int32.reduceMul, eq_self, Bool.false_eq_true]
      refine no _ ?_
      rw [hS, if_neg]
      unfold clc
      rw [hg]
      simp
    · by_cases h0 : na (rs F v.1 v.2 n t).2.1 a = 0
      · simp (disch := omega) only [↓reduceIte, ic_t, ic_f, not_true_eq_false, not_false_eq_true, ↓lt_v, rdR, rdE, rdS, leT, leTc, leTd, leF, leFc, leFd, ltT, ltTc, ltTd, ltF, ltFc, ltFd, eqT, eqTc, eqTd, eqF, eqFc, eqFd, m1T, m1F, m1T', m1F', inb_nI, ix_nI, inb_c, ix_c, nI_1, nI_pred, nI_m1, add_nIc, add_cnI, bd_v, reduceCtorEq, eqFcc, m1e0, m1e1, m1l0, m1g0, m2l0, m2g0, Int32.reduceLT, Int32.reduceLE, Int32.reduceAdd, Int32.reduceSub, Int32.reduceMul, eq_self, Bool.false_eq_true]
        refine no _ ?_
        rw [hS, if_neg]
        unfold clc
        rw [h0]
        simp
      · obtain ⟨j, hj⟩ : ∃ j, na (rs F v.1 v.2 n t).2.1 a = j + 1 := ⟨_ - 1, (Nat.sub_add_cancel (by omega)).symm⟩
        have hcc : clc (rs F v.1 v.2 n t).2 a = true := by unfold clc; rw [hg, hj]; rfl
        have hd : cld (rs F v.1 v.2 n t) a = (rs F v.1 v.2 n t).1 j - (rs F v.1 v.2 n t).1 a := by unfold cld; rw [hj, Nat.add_sub_cancel]
        have hdb := cld_b (F := F) h1 ha (by omega) hcc
        have hbh' : fX10_behind (nI a) s.2 = some (cld (rs F v.1 v.2 n t) a, s.2) := by
          rw [hbh, if_neg h0]; rfl
        have hln : s.1.1 = (clR (clS F v.1 v.2 n a t)).1 := by rw [b0]
        have hcmp : (s.1.1 ≤ cld (rs F v.1 v.2 n t) a) = (clB (clS F v.1 v.2 n a t) (cld (rs F v.1 v.2 n t) a) = false) := by
          rw [hln]
          cases hz : clS F v.1 v.2 n a t with
          | none =>
            show ((1000000 : Int32) ≤ _) = (true = false)
            have := hdb.2
            refine propext ⟨fun q => ?_, fun q => by cases q⟩
            rw [Int32.lt_iff_toInt_lt] at this
            rw [Int32.le_iff_toInt_le] at q
            omega
          | some z =>
            show (z.1 ≤ _) = (decide (_ < z.1) = false)
            refine propext ⟨fun q => decide_eq_false (fun w => ?_), fun q => ?_⟩
            · rw [Int32.lt_iff_toInt_lt] at w
              rw [Int32.le_iff_toInt_le] at q
              omega
            · have q := of_decide_eq_false q
              rw [Int32.lt_iff_toInt_lt] at q
              rw [Int32.le_iff_toInt_le]
              omega
        simp (disch := omega) only [↓reduceIte, ic_t, ic_f, not_true_eq_false, not_false_eq_true, ↓lt_v, rdR, rdE, rdS, leT, leTc, leTd, leF, leFc, leFd, ltT, ltTc, ltTd, ltF, ltFc, ltFd, eqT, eqTc, eqTd, eqF, eqFc, eqFd, m1T, m1F, m1T', m1F', inb_nI, ix_nI, inb_c, ix_c, nI_1, nI_pred, nI_m1, add_nIc, add_cnI, bd_v, reduceCtorEq, eqFcc, m1e0, m1e1, m1l0, m1g0, m2l0, m2g0, Int32.reduceLT, Int32.reduceLE, Int32.reduceAdd, Int32.reduceSub, Int32.reduceMul, eq_self, Bool.false_eq_true, hj, epl, hbh']
        cases hB : clB (clS F v.1 v.2 n a t) (cld (rs F v.1 v.2 n t) a)
        · rw [ic_pos (hcmp ▸ hB)]
          refine no _ ?_
          rw [hS, if_neg]
          rw [hB]
          simp
        · rw [ic_neg (fun q => by rw [hcmp, hB] at q; cases q), e_X10_closest_101]
          have c2j := c2 j (by omega)
          simp (disch := omega) only [↓reduceIte, ic_t, ic_f, not_true_eq_false, not_false_eq_true, ↓lt_v, rdR, rdE, rdS, leT, leTc, leTd, leF, leFc, leFd, ltT, ltTc, ltTd, ltF, ltFc, ltFd, eqT, eqTc, eqTd, eqF, eqFc, eqFd, m1T, m1F, m1T', m1F', inb_nI, ix_nI, inb_c, ix_c, nI_1, nI_pred, nI_m1, add_nIc, add_cnI, bd_v, reduceCtorEq, eqFcc, m1e0, m1e1, m1l0, m1g0, m2l0, m2g0, Int32.reduceLT, Int32.reduceLE, Int32.reduceAdd, Int32.reduceSub, Int32.reduceMul, eq_self, Bool.false_eq_true, epl, hbh', e_X10_closest_125, e_X10_closest_137, c2j]
          refine go (cld (rs F v.1 v.2 n t) a, nI t, nI (v.2 j)) ?_
          rw [hS, if_pos (by rw [hcc, hB]; rfl), hj, Nat.add_sub_cancel]
          rfl
  · intro fu s hs
    obtain ⟨b0, b1, b3⟩ := hs
    have hcs : RR n v F s.2 := rr_kr hc0 (kr_1 (frR_SRu b3))
    have e19 : s.2.1 171 19 = nI st := (hcs.2.2.1 19 (by omega)).trans hst
    have hb := clS_b (F := F) h1 ha (st + 1) (by omega)
    have fr2 : FrR SR SS1 M s.2 := frR_trans hf0 (frR_SRu b3)
    rw [e_X10_closest_35]
    simp (disch := omega) only [↓reduceIte, ic_t, ic_f, not_true_eq_false, not_false_eq_true, ↓lt_v, rdR, rdE, rdS, leT, leTc, leTd, leF, leFc, leFd, ltT, ltTc, ltTd, ltF, ltFc, ltFd, eqT, eqTc, eqTd, eqF, eqFc, eqFd, m1T, m1F, m1T', m1F', inb_nI, ix_nI, inb_c, ix_c, nI_1, nI_pred, nI_m1, add_nIc, add_cnI, bd_v, reduceCtorEq, eqFcc, m1e0, m1e1, m1l0, m1g0, m2l0, m2g0, Int32.reduceLT, Int32.reduceLE, Int32.reduceAdd, Int32.reduceSub, Int32.reduceMul, eq_self, Bool.false_eq_true, e19]
    rw [b0]
    generalize clS F v.1 v.2 n a (st + 1) = z at hb ⊢
    cases z with
    | none =>
      show Ok (ic (0 ≤ (-1 : Int32)) _ _) _
      simp (disch := omega) only [↓reduceIte, ic_t, ic_f, not_true_eq_false, not_false_eq_true, ↓lt_v, rdR, rdE, rdS, leT, leTc, leTd, leF, leFc, leFd, ltT, ltTc, ltTd, ltF, ltFc, ltFd, eqT, eqTc, eqTd, eqF, eqFc, eqFd, m1T, m1F, m1T', m1F', inb_nI, ix_nI, inb_c, ix_c, nI_1, nI_pred, nI_m1, add_nIc, add_cnI, bd_v, reduceCtorEq, eqFcc, m1e0, m1e1, m1l0, m1g0, m2l0, m2g0, Int32.reduceLT, Int32.reduceLE, Int32.reduceAdd, Int32.reduceSub, Int32.reduceMul, eq_self, Bool.false_eq_true]
      exact ok_some (qr_none fr2)
    | some z =>
      obtain ⟨z1, z2, z3, z4⟩ := hb z rfl
      show Ok (ic ((0 : Int32) ≤ nI z.2.1) _ _) _
      rw [ic_pos (nI_pos' (by omega))]
      refine r_tell1 (kr_1 fr2) (fun M2 k1 k2 k3 k4 => ?_)
      exact ok_call (r_enters (by simp) k1 k2) (fun M3 j => ok_some ⟨rfl, j.1, j.2.1⟩)
