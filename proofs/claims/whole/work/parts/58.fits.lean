/-! PURE: fits, asks -/
def bm (p : Nat → Bool) : Nat → Nat
  | 0 => 0
  | k + 1 => if p k = true then bm p k ||| (1 <<< k) else bm p k
theorem bm_p (p : Nat → Bool) : ∀ k, k ≤ 6 → bm p k < 64 ∧ ∀ b, b < 6 → (bm p k).testBit b = (decide (b < k) && p b)
  | 0, _ => ⟨show (0 : Nat) < 64 by decide, fun b _ => by show (0 : Nat).testBit b = _; simp⟩
  | k + 1, hk => by
    obtain ⟨h1, h2⟩ := bm_p p k (by omega)
    unfold bm
    by_cases hg : p k = true
    · rw [if_pos hg]
      obtain ⟨⟨_, b2⟩, b3⟩ := bt_or (bm p k) h1 k (by omega)
      refine ⟨b2, fun b hb => ?_⟩
      rw [b3 b hb, h2 b hb]
      by_cases e : b = k
      · subst e; simp [hg]
      · by_cases e2 : b < k
        · simp [e, e2, show b < k + 1 by omega]
        · simp [e, e2, show ¬ b < k + 1 by omega]
    · rw [if_neg hg]
      refine ⟨h1, fun b hb => ?_⟩
      rw [h2 b hb]
      by_cases e : b = k
      · subst e; simp [hg]
      · by_cases e2 : b < k
        · simp [e2, show b < k + 1 by omega]
        · simp [e2, show ¬ b < k + 1 by omega]
theorem bm_eq {p : Nat → Bool} {n x : Nat} (hn : n ≤ 6) (hx : x < 64) (h : ∀ b, b < 6 → x.testBit b = (decide (b < n) && p b)) : x = bm p n := bits_eq hx (bm_p p n hn).1 (fun b hb => by rw [h b hb, (bm_p p n hn).2 b hb])
theorem bt_and : ∀ x, x < 64 → ∀ y, y < 64 → nI x &&& nI y = nI (x &&& y) ∧ x &&& y < 64 := by decide +kernel
theorem bt_not : ∀ x, x < 64 → ∀ y, y < 64 → (nI x &&& (nI y ^^^ (-1)) = nI (x &&& (63 ^^^ y)) ∧ x &&& (63 ^^^ y) < 64) ∧ ∀ b, b < 6 → (x &&& (63 ^^^ y)).testBit b = (x.testBit b && !(y.testBit b)) := by decide +kernel
theorem bm_and {p q : Nat → Bool} {n : Nat} (hn : n ≤ 6) : nI (bm p n) &&& nI (bm q n) = nI (bm (fun b => p b && q b) n) := by
  obtain ⟨a1, a2⟩ := bm_p p n hn
  obtain ⟨b1, b2⟩ := bm_p q n hn
  obtain ⟨c1, c2⟩ := bt_and _ a1 _ b1
  rw [c1, bm_eq (p := fun b => p b && q b) hn c2 (fun b hb => ?_)]
  rw [Nat.testBit_and, a2 b hb, b2 b hb]
  by_cases e : b < n <;> simp [e]
theorem all_bm {n : Nat} (hn : n ≤ 6) : nI (2 ^ n - 1) = nI (bm (fun _ => true) n) := by
  obtain ⟨_, b2, b3⟩ := bt_all n hn
  rw [bm_eq (p := fun _ => true) hn b2 (fun b hb => by rw [b3 b hb]; simp)]
theorem bc_64 : ∀ x, x < 64 → ∀ M : Mem, fBC (nI x) M = some (nI (cnt (fun b => x.testBit b) 6), M) := by
  intro x hx M
  have h : ∀ x, x < 64 → (fBC (nI x) (fun _ _ => 0, fun _ _ => 0, fun _ _ => 0)).map (fun q => q.1) = some (nI (cnt (fun b => x.testBit b) 6)) := by decide +kernel
  have h1 := h x hx
  rw [e_BC] at h1 ⊢
  simp only [lt_v, Option.map_some, Option.some.injEq] at h1 ⊢
  exact Prod.ext h1 rfl
theorem cnt_cg {G H : Nat → Bool} : ∀ k, (∀ j, j < k → G j = H j) → cnt G k = cnt H k
  | 0, _ => rfl
  | k + 1, h => by
    unfold cnt
    rw [cnt_cg k (fun j hj => h j (by omega)), h k (by omega)]
theorem cnt_more {G : Nat → Bool} {n : Nat} : ∀ d, (∀ j, n ≤ j → G j = false) → cnt G (n + d) = cnt G n
  | 0, _ => rfl
  | d + 1, h => by
    rw [show n + (d + 1) = (n + d) + 1 by omega]
    show cnt G (n + d) + (if G (n + d) = true then 1 else 0) = _
    rw [cnt_more d h, h (n + d) (by omega)]
    simp
theorem bc_bm {p : Nat → Bool} {n : Nat} (hn : n ≤ 6) {M : Mem} : fBC (nI (bm p n)) M = some (nI (cnt p n), M) := by
  obtain ⟨h1, h2⟩ := bm_p p n hn
  rw [bc_64 _ h1]
  have : cnt (fun b => (bm p n).testBit b) 6 = cnt p n := by
    have e1 : cnt (fun b => (bm p n).testBit b) 6 = cnt (fun b => decide (b < n) && p b) 6 := cnt_cg 6 (fun j hj => h2 j hj)
    have e2 : cnt (fun b => decide (b < n) && p b) (n + (6 - n)) = cnt (fun b => decide (b < n) && p b) n := cnt_more (6 - n) (fun j hj => by simp; omega)
    rw [show n + (6 - n) = 6 by omega] at e2
    rw [e1, e2]
    exact cnt_cg n (fun j hj => by simp [hj])
  rw [this]
/-- touches as bits -/
def tbb (A : Nat → Int32) (m b : Nat) : Bool := (ix (bts A m)).testBit b
theorem bts_p {A : Nat → Int32} {n m : Nat} (hn : n ≤ 6) (hA : ∀ i, i < m → ∃ x, x < n ∧ A i = nI x) : ∀ i, i ≤ m → ∃ y, y < 64 ∧ bts A i = nI y ∧ ∀ b, n ≤ b → b < 6 → y.testBit b = false
  | 0, _ => ⟨0, by decide, rfl, fun b _ _ => by simp⟩
  | i + 1, hi => by
    obtain ⟨y, h1, h2, h3⟩ := bts_p hn hA i (by omega)
    obtain ⟨x, hx, ex⟩ := hA i (by omega)
    obtain ⟨⟨b1, b2⟩, b3⟩ := bt_or y h1 x (by omega)
    refine ⟨y ||| (1 <<< x), b2, ?_, fun b hb hb6 => ?_⟩
    · unfold bts
      rw [h2, ex]
      exact b1
    · rw [b3 b hb6, h3 b hb hb6]
      simp
      omega
theorem bts_bm {A : Nat → Int32} {n m : Nat} (hn : n ≤ 6) (hA : ∀ i, i < m → ∃ x, x < n ∧ A i = nI x) : bts A m = nI (bm (tbb A m) n) ∧ (∀ b, b < 6 → (bm (tbb A m) n).testBit b = tbb A m b) := by
  obtain ⟨y, h1, h2, h3⟩ := bts_p hn hA m (Nat.le_refl _)
  have e : ix (bts A m) = y := by rw [h2, ix_nI (by omega)]
  have hy : ∀ b, b < 6 → y.testBit b = (decide (b < n) && tbb A m b) := by
    intro b hb
    unfold tbb
    rw [e]
    by_cases hbn : b < n
    · simp [hbn]
    · simp [hbn, h3 b (by omega) hb]
  have := bm_eq hn h1 hy
  refine ⟨by rw [h2, this], fun b hb => ?_⟩
  rw [← this]
  unfold tbb
  rw [e]
/-- it is so of a boat -/
def so (v : VV) (T : TS) (w u : Nat) (b : Nat) : Bool :=
  if w = 0 then decide (¬ v.1 b < nI u) else if w = 1 then decide (¬ v.1 (6 + b) < nI u) else if w = 2 then decide (¬ nI u < v.1 (12 + b))
  else if w = 3 then decide (bI (tbb T.2.2.2.1 T.2.1 b) = nI u) else decide (bI (tbb T.2.2.2.2 T.2.1 b) = nI u)
def okq (w u : Nat) : Prop := w < 5 ∧ u < 10 ∧ (3 ≤ w → u < 2)
theorem bI_1 {b : Bool} : (bI b = nI 1) = (b = true) := by cases b <;> simp [bI] <;> decide
theorem bI_0' {b : Bool} : (bI b = nI 0) = (b = false) := by cases b <;> simp [bI] <;> decide
theorem c_which {M : Mem} {n w u : Nat} {v : VV} {L : Nat → Int32} {T : TS} (hn : n ≤ 6) (hv : RvC 6 n v M) (hL : RcC n L T M) (hT : TB n T) (hm : T.2.1 ≤ 3) (hq : okq w u) : fX9_boatsOfWhich (nI w) (nI u) M = some (nI (bm (so v T w u) n), M) := by
  obtain ⟨q1, q2, q3⟩ := hq
  obtain ⟨t1, t2⟩ := c_bits hm hL
  have v1 := hv.1
  have hb := (bt_all n hn).1
  obtain ⟨a1, a2⟩ := bts_bm (A := T.2.2.2.1) hn (fun i hi => (hT i hi).1)
  obtain ⟨c1, c2⟩ := bts_bm (A := T.2.2.2.2) hn (fun i hi => (hT i hi).2)
  have neg : ∀ p : Nat → Bool, nI (2 ^ n - 1) &&& (nI (bm p n) ^^^ (-1)) = nI (bm (fun b => !(p b)) n) := by
    intro p
    obtain ⟨_, b2, b3⟩ := bt_all n hn
    obtain ⟨⟨d1, d2⟩, d3⟩ := bt_not _ b2 _ (bm_p p n hn).1
    rw [d1, bm_eq (p := fun b => !(p b)) hn d2 (fun b hb => ?_)]
    rw [d3 b hb, b3 b hb, (bm_p p n hn).2 b hb]
    by_cases e : b < n <;> simp [e]
  have bmc : ∀ p q : Nat → Bool, (∀ b, b < n → p b = q b) → bm p n = bm q n := by
    intro p q h
    refine bm_eq hn (bm_p p n hn).1 (fun b hb => ?_)
    rw [(bm_p p n hn).2 b hb]
    by_cases e : b < n
    · simp [e, h b e]
    · simp [e]
  rw [e_X9_boatsOfWhich]
  by_cases w3 : w = 3
  · have u2 := q3 (by omega)
    rcases (show u = 1 ∨ u = 0 by omega) with rfl | rfl
    · simp (disch := omega) only [↓reduceIte, ic_t, ic_f, not_true_eq_false, not_false_eq_true, ↓lt_v, rdR, rdE, rdS, leT, leTc, leTd, leF, leFc, leFd, ltT, ltTc, ltTd, ltF, ltFc, ltFd, eqT, eqTc, eqTd, eqF, eqFc, eqFd, m1T, m1F, m1T', m1F', inb_nI, ix_nI, inb_c, ix_c, nI_1, nI_pred, nI_m1, add_nIc, add_cnI, bd_v, reduceCtorEq, eqFcc, m1e0, m1e1, m1l0, m1g0, m2l0, m2g0, Int32.reduceLT, Int32.reduceLE, Int32.reduceAdd, Int32.reduceSub, Int32.reduceMul, eq_self, Bool.false_eq_true, t1]
      rw [a1, bmc (tbb T.2.2.2.1 T.2.1) (so v T w 1) (fun b _ => by unfold so; simp [w3, bI_1])]
    · simp (disch := omega) only [↓reduceIte, ic_t, ic_f, not_true_eq_false, not_false_eq_true, ↓lt_v, rdR, rdE, rdS, leT, leTc, leTd, leF, leFc, leFd, ltT, ltTc, ltTd, ltF, ltFc, ltFd, eqT, eqTc, eqTd, eqF, eqFc, eqFd, m1T, m1F, m1T', m1F', inb_nI, ix_nI, inb_c, ix_c, nI_1, nI_pred, nI_m1, add_nIc, add_cnI, bd_v, reduceCtorEq, eqFcc, m1e0, m1e1, m1l0, m1g0, m2l0, m2g0, Int32.reduceLT, Int32.reduceLE, Int32.reduceAdd, Int32.reduceSub, Int32.reduceMul, eq_self, Bool.false_eq_true, t1, v1, hb]
      rw [a1, neg, bmc _ (so v T w 0) (fun b _ => by unfold so; simp [w3, bI_0'])]
  · by_cases w4 : w = 4
    · have u2 := q3 (by omega)
      rcases (show u = 1 ∨ u = 0 by omega) with rfl | rfl
      · simp (disch := omega) only [↓reduceIte, ic_t, ic_f, not_true_eq_false, not_false_eq_true, ↓lt_v, rdR, rdE, rdS, leT, leTc, leTd, leF, leFc, leFd, ltT, ltTc, ltTd, ltF, ltFc, ltFd, eqT, eqTc, eqTd, eqF, eqFc, eqFd, m1T, m1F, m1T', m1F', inb_nI, ix_nI, inb_c, ix_c, nI_1, nI_pred, nI_m1, add_nIc, add_cnI, bd_v, reduceCtorEq, eqFcc, m1e0, m1e1, m1l0, m1g0, m2l0, m2g0, Int32.reduceLT, Int32.reduceLE, Int32.reduceAdd, Int32.reduceSub, Int32.reduceMul, eq_self, Bool.false_eq_true, t2]
        rw [c1, bmc (tbb T.2.2.2.2 T.2.1) (so v T w 1) (fun b _ => by unfold so; simp [w4, bI_1])]
      · simp (disch := omega) only [↓reduceIte, ic_t, ic_f, not_true_eq_false, not_false_eq_true, ↓lt_v, rdR, rdE, rdS, leT, leTc, leTd, leF, leFc, leFd, ltT, ltTc, ltTd, ltF, ltFc, ltFd, eqT, eqTc, eqTd, eqF, eqFc, eqFd, m1T, m1F, m1T', m1F', inb_nI, ix_nI, inb_c, ix_c, nI_1, nI_pred, nI_m1, add_nIc, add_cnI, bd_v, reduceCtorEq, eqFcc, m1e0, m1e1, m1l0, m1g0, m2l0, m2g0, Int32.reduceLT, Int32.reduceLE, Int32.reduceAdd, Int32.reduceSub, Int32.reduceMul, eq_self, Bool.false_eq_true, t2, v1, hb]
        rw [c1, neg, bmc _ (so v T w 0) (fun b _ => by unfold so; simp [w4, bI_0'])]
    · simp (disch := omega) only [↓reduceIte, ic_t, ic_f, not_true_eq_false, not_false_eq_true, ↓lt_v, rdR, rdE, rdS, leT, leTc, leTd, leF, leFc, leFd, ltT, ltTc, ltTd, ltF, ltFc, ltFd, eqT, eqTc, eqTd, eqF, eqFc, eqFd, m1T, m1F, m1T', m1F', inb_nI, ix_nI, inb_c, ix_c, nI_1, nI_pred, nI_m1, add_nIc, add_cnI, bd_v, reduceCtorEq, eqFcc, m1e0, m1e1, m1l0, m1g0, m2l0, m2g0, Int32.reduceLT, Int32.reduceLE, Int32.reduceAdd, Int32.reduceSub, Int32.reduceMul, eq_self, Bool.false_eq_true]
      have : Ok (fX9_boatsOfWhich_82 FU (nI w) (nI u) 0 0 M) (fun q => q = (nI (bm (so v T w u) n), M)) := by
        have hFU : 2000 < FU := FU_big
        generalize FU = fu0 at hFU ⊢
        refine ok_loop n (fun fu k (s : Int32) => fX9_boatsOfWhich_82 fu (nI w) (nI u) s (nI k) M) (fun k (s : Int32) => s = nI (bm (so v T w u) k)) ?_ ?_ fu0 0 0 (by omega) (by omega) rfl
        · intro fu k s hk hs ih
          have p1 := hv.2.1 k hk
          have p2 := hv.2.2.1 k hk
          have p3 := hv.2.2.2.1 k hk
          have hst : bm (so v T w u) (k + 1) = if so v T w u k = true then bm (so v T w u) k ||| (1 <<< k) else bm (so v T w u) k := rfl
          have yes : so v T w u k = true → Ok (fX9_boatsOfWhich_166 (fX9_boatsOfWhich_82 fu) (nI w) (nI u) s (nI k) 1 M) (fun q => q = (nI (bm (so v T w u) n), M)) := by
            intro h
            rw [h, if_pos rfl] at hst
            rw [e_X9_boatsOfWhich_166]
            simp (disch := omega) only [↓reduceIte, ic_t, ic_f, not_true_eq_false, not_false_eq_true, ↓lt_v, rdR, rdE, rdS, leT, leTc, leTd, leF, leFc, leFd, ltT, ltTc, ltTd, ltF, ltFc, ltFd, eqT, eqTc, eqTd, eqF, eqFc, eqFd, m1T, m1F, m1T', m1F', inb_nI, ix_nI, inb_c, ix_c, nI_1, nI_pred, nI_m1, add_nIc, add_cnI, bd_v, reduceCtorEq, eqFcc, m1e0, m1e1, m1l0, m1g0, m2l0, m2g0, Int32.reduceLT, Int32.reduceLE, Int32.reduceAdd, Int32.reduceSub, Int32.reduceMul, eq_self, Bool.false_eq_true]
            refine ih _ ?_
            rw [hst, hs]
            exact (bt_or _ (bm_p _ k (by omega)).1 k (by omega)).1.1
          have no : so v T w u k = false → Ok (fX9_boatsOfWhich_166 (fX9_boatsOfWhich_82 fu) (nI w) (nI u) s (nI k) 0 M) (fun q => q = (nI (bm (so v T w u) n), M)) := by
            intro h
            rw [h] at hst
            rw [e_X9_boatsOfWhich_166]
            simp (disch := omega) only [↓reduceIte, ic_t, ic_f, not_true_eq_false, not_false_eq_true, ↓lt_v, rdR, rdE, rdS, leT, leTc, leTd, leF, leFc, leFd, ltT, ltTc, ltTd, ltF, ltFc, ltFd, eqT, eqTc, eqTd, eqF, eqFc, eqFd, m1T, m1F, m1T', m1F', inb_nI, ix_nI, inb_c, ix_c, nI_1, nI_pred, nI_m1, add_nIc, add_cnI, bd_v, reduceCtorEq, eqFcc, m1e0, m1e1, m1l0, m1g0, m2l0, m2g0, Int32.reduceLT, Int32.reduceLE, Int32.reduceAdd, Int32.reduceSub, Int32.reduceMul, eq_self, Bool.false_eq_true]
            refine ih _ ?_
            rw [hst, hs]
            simp [Int32.or_zero]
          rw [e_X9_boatsOfWhich_82]
          rcases (show w = 0 ∨ w = 1 ∨ w = 2 by omega) with rfl | rfl | rfl
          · simp (disch := omega) only [↓reduceIte, ic_t, ic_f, not_true_eq_false, not_false_eq_true, ↓lt_v, rdR, rdE, rdS, leT, leTc, leTd, leF, leFc, leFd, ltT, ltTc, ltTd, ltF, ltFc, ltFd, eqT, eqTc, eqTd, eqF, eqFc, eqFd, m1T, m1F, m1T', m1F', inb_nI, ix_nI, inb_c, ix_c, nI_1, nI_pred, nI_m1, add_nIc, add_cnI, bd_v, reduceCtorEq, eqFcc, m1e0, m1e1, m1l0, m1g0, m2l0, m2g0, Int32.reduceLT, Int32.reduceLE, Int32.reduceAdd, Int32.reduceSub, Int32.reduceMul, eq_self, Bool.false_eq_true, v1, p1]
            by_cases h : v.1 k < nI u
            · rw [ic_pos h]
              exact no (by unfold so; simp [h])
            · rw [ic_neg h]
              exact yes (by unfold so; simp [h])
          · simp (disch := omega) only [↓reduceIte, ic_t, ic_f, not_true_eq_false, not_false_eq_true, ↓lt_v, rdR, rdE, rdS, leT, leTc, leTd, leF, leFc, leFd, ltT, ltTc, ltTd, ltF, ltFc, ltFd, eqT, eqTc, eqTd, eqF, eqFc, eqFd, m1T, m1F, m1T', m1F', inb_nI, ix_nI, inb_c, ix_c, nI_1, nI_pred, nI_m1, add_nIc, add_cnI, bd_v, reduceCtorEq, eqFcc, m1e0, m1e1, m1l0, m1g0, m2l0, m2g0, Int32.reduceLT, Int32.reduceLE, Int32.reduceAdd, Int32.reduceSub, Int32.reduceMul, eq_self, Bool.false_eq_true, v1, p2]
            by_cases h : v.1 (6 + k) < nI u
            · rw [ic_pos h]
              exact no (by unfold so; simp [h])
            · rw [ic_neg h]
              exact yes (by unfold so; simp [h])
          · simp (disch := omega) only [↓reduceIte, ic_t, ic_f, not_true_eq_false, not_false_eq_true, ↓lt_v, rdR, rdE, rdS, leT, leTc, leTd, leF, leFc, leFd, ltT, ltTc, ltTd, ltF, ltFc, ltFd, eqT, eqTc, eqTd, eqF, eqFc, eqFd, m1T, m1F, m1T', m1F', inb_nI, ix_nI, inb_c, ix_c, nI_1, nI_pred, nI_m1, add_nIc, add_cnI, bd_v, reduceCtorEq, eqFcc, m1e0, m1e1, m1l0, m1g0, m2l0, m2g0, Int32.reduceLT, Int32.reduceLE, Int32.reduceAdd, Int32.reduceSub, Int32.reduceMul, eq_self, Bool.false_eq_true, v1, p3]
            by_cases h : nI u < v.1 (12 + k)
            · rw [ic_pos h]
              exact no (by unfold so; simp [h])
            · rw [ic_neg h]
              exact yes (by unfold so; simp [h])
        · intro fu s hs
          rw [e_X9_boatsOfWhich_82]
          simp (disch := omega) only [↓reduceIte, ic_t, ic_f, not_true_eq_false, not_false_eq_true, ↓lt_v, rdR, rdE, rdS, leT, leTc, leTd, leF, leFc, leFd, ltT, ltTc, ltTd, ltF, ltFc, ltFd, eqT, eqTc, eqTd, eqF, eqFc, eqFd, m1T, m1F, m1T', m1F', inb_nI, ix_nI, inb_c, ix_c, nI_1, nI_pred, nI_m1, add_nIc, add_cnI, bd_v, reduceCtorEq, eqFcc, m1e0, m1e1, m1l0, m1g0, m2l0, m2g0, Int32.reduceLT, Int32.reduceLE, Int32.reduceAdd, Int32.reduceSub, Int32.reduceMul, eq_self, Bool.false_eq_true, v1, hs]
          exact ok_some rfl
      obtain ⟨q, h1, h2⟩ := this
      rw [h1, h2]
theorem r_isSo {M : Mem} {n w u b : Nat} {v : VV} {o : Nat → Nat} {L : Nat → Int32} {T : TS} (hn : n ≤ 6) (hv : ∀ i, i < 22 → M.1 171 i = v.1 i) (hL : RcR n o L T M) (hT : TB n T) (hm : T.2.1 ≤ 3) (hq : okq w u) (hb : b < n) : fX10_isSo (nI b) (nI w) (nI u) M = some (bI (so v T w u b), M) := by
  obtain ⟨q1, q2, q3⟩ := hq
  obtain ⟨t1, t2⟩ := r_bits hm hL
  obtain ⟨a1, a2⟩ := bts_bm (A := T.2.2.2.1) hn (fun i hi => (hT i hi).1)
  obtain ⟨c1, c2⟩ := bts_bm (A := T.2.2.2.2) hn (fun i hi => (hT i hi).2)
  have hfl : ∀ (z : Bool) (N : Mem), fX10_flag (bI z) N = some (bI z, N) := fun z N => by
    rw [e_X10_flag]
    cases z <;> rfl
  have h1 := r_has (M := M) (bm_p (tbb T.2.2.2.1 T.2.1) n hn).1 (show b < 6 by omega)
  have h2 := r_has (M := M) (bm_p (tbb T.2.2.2.2 T.2.1) n hn).1 (show b < 6 by omega)
  rw [a2 b (by omega)] at h1
  rw [c2 b (by omega)] at h2
  rw [e_X10_isSo]
  rcases (show w = 0 ∨ w = 1 ∨ w = 2 ∨ w = 3 ∨ w = 4 by omega) with rfl | rfl | rfl | rfl | rfl
  · simp (disch := omega) only [↓reduceIte, ic_t, ic_f, not_true_eq_false, not_false_eq_true, ↓lt_v, rdR, rdE, rdS, leT, leTc, leTd, leF, leFc, leFd, ltT, ltTc, ltTd, ltF, ltFc, ltFd, eqT, eqTc, eqTd, eqF, eqFc, eqFd, m1T, m1F, m1T', m1F', inb_nI, ix_nI, inb_c, ix_c, nI_1, nI_pred, nI_m1, add_nIc, add_cnI, bd_v, reduceCtorEq, eqFcc, m1e0, m1e1, m1l0, m1g0, m2l0, m2g0, Int32.reduceLT, Int32.reduceLE, Int32.reduceAdd, Int32.reduceSub, Int32.reduceMul, eq_self, Bool.false_eq_true, hv]
    by_cases h : v.1 b < nI u
    · rw [ic_pos h]; unfold so; simp [h, bI]
    · rw [ic_neg h]; unfold so; simp [h, bI]
  · simp (disch := omega) only [↓reduceIte, ic_t, ic_f, not_true_eq_false, not_false_eq_true, ↓lt_v, rdR, rdE, rdS, leT, leTc, leTd, leF, leFc, leFd, ltT, ltTc, ltTd, ltF, ltFc, ltFd, eqT, eqTc, eqTd, eqF, eqFc, eqFd, m1T, m1F, m1T', m1F', inb_nI, ix_nI, inb_c, ix_c, nI_1, nI_pred, nI_m1, add_nIc, add_cnI, bd_v, reduceCtorEq, eqFcc, m1e0, m1e1, m1l0, m1g0, m2l0, m2g0, Int32.reduceLT, Int32.reduceLE, Int32.reduceAdd, Int32.reduceSub, Int32.reduceMul, eq_self, Bool.false_eq_true, hv]
    by_cases h : v.1 (6 + b) < nI u
    · rw [ic_pos h]; unfold so; simp [h, bI]
    · rw [ic_neg h]; unfold so; simp [h, bI]
  · simp (disch := omega) only [↓reduceIte, ic_t, ic_f, not_true_eq_false, not_false_eq_true, ↓lt_v, rdR, rdE, rdS, leT, leTc, leTd, leF, leFc, leFd, ltT, ltTc, ltTd, ltF, ltFc, ltFd, eqT, eqTc, eqTd, eqF, eqFc, eqFd, m1T, m1F, m1T', m1F', inb_nI, ix_nI, inb_c, ix_c, nI_1, nI_pred, nI_m1, add_nIc, add_cnI, bd_v, reduceCtorEq, eqFcc, m1e0, m1e1, m1l0, m1g0, m2l0, m2g0, Int32.reduceLT, Int32.reduceLE, Int32.reduceAdd, Int32.reduceSub, Int32.reduceMul, eq_self, Bool.false_eq_true, hv]
    by_cases h : nI u < v.1 (12 + b)
    · rw [ic_pos h]; unfold so; simp [h, bI]
    · rw [ic_neg h]; unfold so; simp [h, bI]
  · simp (disch := omega) only [↓reduceIte, ic_t, ic_f, not_true_eq_false, not_false_eq_true, ↓lt_v, rdR, rdE, rdS, leT, leTc, leTd, leF, leFc, leFd, ltT, ltTc, ltTd, ltF, ltFc, ltFd, eqT, eqTc, eqTd, eqF, eqFc, eqFd, m1T, m1F, m1T', m1F', inb_nI, ix_nI, inb_c, ix_c, nI_1, nI_pred, nI_m1, add_nIc, add_cnI, bd_v, reduceCtorEq, eqFcc, m1e0, m1e1, m1l0, m1g0, m2l0, m2g0, Int32.reduceLT, Int32.reduceLE, Int32.reduceAdd, Int32.reduceSub, Int32.reduceMul, eq_self, Bool.false_eq_true, t1, a1, h1, hfl]
    by_cases h : bI (tbb T.2.2.2.1 T.2.1 b) = nI u
    · rw [ic_pos h]; unfold so; simp [h]; rfl
    · rw [ic_neg h]; unfold so; simp [h]; rfl
  · simp (disch := omega) only [↓reduceIte, ic_t, ic_f, not_true_eq_false, not_false_eq_true, ↓lt_v, rdR, rdE, rdS, leT, leTc, leTd, leF, leFc, leFd, ltT, ltTc, ltTd, ltF, ltFc, ltFd, eqT, eqTc, eqTd, eqF, eqFc, eqFd, m1T, m1F, m1T', m1F', inb_nI, ix_nI, inb_c, ix_c, nI_1, nI_pred, nI_m1, add_nIc, add_cnI, bd_v, reduceCtorEq, eqFcc, m1e0, m1e1, m1l0, m1g0, m2l0, m2g0, Int32.reduceLT, Int32.reduceLE, Int32.reduceAdd, Int32.reduceSub, Int32.reduceMul, eq_self, Bool.false_eq_true, t2, c1, h2, hfl]
    by_cases h : bI (tbb T.2.2.2.2 T.2.1 b) = nI u
    · rw [ic_pos h]; unfold so; simp [h]; rfl
    · rw [ic_neg h]; unfold so; simp [h]; rfl
/-- what was heard -/
def HC (h : Nat) (w u : Nat → Nat) (M : Mem) : Prop := h ≤ 12 ∧ M.1 105 2 = nI h ∧ ∀ i, i < h → M.1 106 i = nI (w i) ∧ M.1 107 i = nI (u i) ∧ okq (w i) (u i)
def HR (h : Nat) (w u : Nat → Nat) (M : Mem) : Prop := h ≤ 12 ∧ M.1 169 45 = nI h ∧ ∀ i, i < h → M.1 198 i = nI (w i) ∧ M.1 199 i = nI (u i) ∧ okq (w i) (u i)
def fp (v : VV) (T : TS) (w u : Nat → Nat) (b : Nat) : Nat → Bool
  | 0 => true
  | i + 1 => fp v T w u b i && so v T (w i) (u i) b
theorem c_fitting {M : Mem} {n R h : Nat} {v : VV} {F : (Nat → Int32) → Int32} {w u : Nat → Nat} (hc : CR n v F R M) (hh : HC h w u M) : Ok (fX9_fittingBoats M) (fun q => q.1 = nI (bm (fun b => fp v (TT F n v) w u b h) n) ∧ (∃ L, RcC n L (TT F n v) q.2) ∧ RvC 6 n v q.2 ∧ Fr SC M q.2) := by
  obtain ⟨h1, h2, h3, h4, h5⟩ := hc
  have hn : n ≤ 6 := h1.1
  rw [e_X9_fittingBoats, h4]
  refine ok_call (c_runT h1 (by omega) h5 h2 h3) (fun M1 g => ?_)
  obtain ⟨⟨L, hL⟩, hf⟩ := g
  have hv1 : RvC 6 n v M1 := rivC_fr h2 (fun a a1 a2 => hf.1 a (by unfold PRu; omega))
  have e6 := hv1.1
  obtain ⟨k0, k1, k2⟩ := hh
  have k1' : M1.1 105 2 = nI h := by rw [hf.1 105 (by unfold PRu; omega)]; exact k1
  simp (disch := omega) only [↓reduceIte, ic_t, ic_f, not_true_eq_false, not_false_eq_true, ↓lt_v, rdR, rdE, rdS, leT, leTc, leTd, leF, leFc, leFd, ltT, ltTc, ltTd, ltF, ltFc, ltFd, eqT, eqTc, eqTd, eqF, eqFc, eqFd, m1T, m1F, m1T', m1F', inb_nI, ix_nI, inb_c, ix_c, nI_1, nI_pred, nI_m1, add_nIc, add_cnI, bd_v, reduceCtorEq, eqFcc, m1e0, m1e1, m1l0, m1g0, m2l0, m2g0, Int32.reduceLT, Int32.reduceLE, Int32.reduceAdd, Int32.reduceSub, Int32.reduceMul, eq_self, Bool.false_eq_true, e6, (bt_all n hn).1]
  have hFU : 2000 < FU := FU_big
  generalize FU = fu0 at hFU ⊢
  refine ok_loop h (fun fu k (s : Int32) => fX9_fittingBoats_29 fu s (nI k) M1) (fun k (s : Int32) => s = nI (bm (fun b => fp v (TT F n v) w u b k) n)) ?_ ?_ fu0 0 _ (by omega) (by omega) (all_bm hn)
  · intro fu k s hk hs ih
    obtain ⟨d1, d2, d3⟩ := k2 k hk
    have d1' : M1.1 106 k = nI (w k) := by rw [hf.1 106 (by unfold PRu; omega)]; exact d1
    have d2' : M1.1 107 k = nI (u k) := by rw [hf.1 107 (by unfold PRu; omega)]; exact d2
    have hwh := c_which hn hv1 hL (tb_TT h1) (m_TT h1) d3
    rw [e_X9_fittingBoats_29]
    simp (disch := omega) only [↓reduceIte, ic_t, ic_f, not_true_eq_false, not_false_eq_true, ↓lt_v, rdR, rdE, rdS, leT, leTc, leTd, leF, leFc, leFd, ltT, ltTc, ltTd, ltF, ltFc, ltFd, eqT, eqTc, eqTd, eqF, eqFc, eqFd, m1T, m1F, m1T', m1F', inb_nI, ix_nI, inb_c, ix_c, nI_1, nI_pred, nI_m1, add_nIc, add_cnI, bd_v, reduceCtorEq, eqFcc, m1e0, m1e1, m1l0, m1g0, m2l0, m2g0, Int32.reduceLT, Int32.reduceLE, Int32.reduceAdd, Int32.reduceSub, Int32.reduceMul, eq_self, Bool.false_eq_true, k1', d1', d2', hwh]
    refine ih _ ?_
    rw [hs, bm_and hn]
    rfl
  · intro fu s hs
    rw [e_X9_fittingBoats_29]
    simp (disch := omega) only [↓reduceIte, ic_t, ic_f, not_true_eq_false, not_false_eq_true, ↓lt_v, rdR, rdE, rdS, leT, leTc, leTd, leF, leFc, leFd, ltT, ltTc, ltTd, ltF, ltFc, ltFd, eqT, eqTc, eqTd, eqF, eqFc, eqFd, m1T, m1F, m1T', m1F', inb_nI, ix_nI, inb_c, ix_c, nI_1, nI_pred, nI_m1, add_nIc, add_cnI, bd_v, reduceCtorEq, eqFcc, m1e0, m1e1, m1l0, m1g0, m2l0, m2g0, Int32.reduceLT, Int32.reduceLE, Int32.reduceAdd, Int32.reduceSub, Int32.reduceMul, eq_self, Bool.false_eq_true, k1']
    exact ok_some ⟨hs, ⟨L, hL⟩, hv1, fr_SCu hf h5⟩
theorem c_fits {M : Mem} {n R h : Nat} {v : VV} {F : (Nat → Int32) → Int32} {w u : Nat → Nat} (hc : CR n v F R M) (hh : HC h w u M) : Ok (fX9_fits M) (QC (nI (bm (fun b => fp v (TT F n v) w u b h) n)) (some [(nI (cnt (fun b => fp v (TT F n v) w u b h) n)).toInt64]) M) := by
  have hn : n ≤ 6 := hc.1.1
  rw [e_X9_fits]
  refine ok_call (c_fitting hc hh) (fun q g => ?_)
  rw [g.1, bc_bm hn]
  simp (disch := omega) only [↓reduceIte, ic_t, ic_f, not_true_eq_false, not_false_eq_true, ↓lt_v, rdR, rdE, rdS, leT, leTc, leTd, leF, leFc, leFd, ltT, ltTc, ltTd, ltF, ltFc, ltFd, eqT, eqTc, eqTd, eqF, eqFc, eqFd, m1T, m1F, m1T', m1F', inb_nI, ix_nI, inb_c, ix_c, nI_1, nI_pred, nI_m1, add_nIc, add_cnI, bd_v, reduceCtorEq, eqFcc, m1e0, m1e1, m1l0, m1g0, m2l0, m2g0, Int32.reduceLT, Int32.reduceLE, Int32.reduceAdd, Int32.reduceSub, Int32.reduceMul, eq_self, Bool.false_eq_true]
  exact ok_call (c_tell (kc_fr g.2.2.2)) (fun M2 k => ok_some ⟨rfl, k.1, k.2.1⟩)
theorem r_fitting {M : Mem} {n h : Nat} {v : VV} {F : (Nat → Int32) → Int32} {w u : Nat → Nat} (hc : RR n v F M) (hh : HR h w u M) : Ok (fX10_fitting M) (fun q => q.1 = nI (bm (fun b => fp v (TT F n v) w u b h) n) ∧ (∃ L, RcR n v.2 L (TT F n v) q.2) ∧ FrR PRr ST M q.2) := by
  have hn : n ≤ 6 := hc.1.1
  have e19 := hc.2.2.1 19 (by omega)
  rw [e_X10_fitting]
  simp (disch := omega) only [↓reduceIte, ic_t, ic_f, not_true_eq_false, not_false_eq_true, ↓lt_v, rdR, rdE, rdS, leT, leTc, leTd, leF, leFc, leFd, ltT, ltTc, ltTd, ltF, ltFc, ltFd, eqT, eqTc, eqTd, eqF, eqFc, eqFd, m1T, m1F, m1T', m1F', inb_nI, ix_nI, inb_c, ix_c, nI_1, nI_pred, nI_m1, add_nIc, add_cnI, bd_v, reduceCtorEq, eqFcc, m1e0, m1e1, m1l0, m1g0, m2l0, m2g0, Int32.reduceLT, Int32.reduceLE, Int32.reduceAdd, Int32.reduceSub, Int32.reduceMul, eq_self, Bool.false_eq_true, e19]
  refine ok_call (r_raceT hc) (fun M1 g => ?_)
  obtain ⟨⟨L, hL⟩, hf⟩ := g
  have hv1 : ∀ i, i < 22 → M1.1 171 i = v.1 i := fun i hi => by rw [hf.1 171 (by omega) (by unfold PRr; omega)]; exact hc.2.2.1 i hi
  obtain ⟨k0, k1, k2⟩ := hh
  have k1' : M1.1 169 45 = nI h := by rw [hf.2.1 45 (by unfold ST; omega)]; exact k1
  have e3 := hL.1
  have hFU : 2000 < FU := FU_big
  generalize FU = fu0 at hFU ⊢
  refine ok_loop n (fun fu b (s : Int32) => fX10_fitting_19 fu s (nI b) M1) (fun b (s : Int32) => s = nI (bm (fun b => fp v (TT F n v) w u b h) b)) ?_ ?_ fu0 0 0 (by omega) (by omega) rfl
  · intro fu b s hb hs ih
    rw [e_X10_fitting_19]
    simp (disch := omega) only [↓reduceIte, ic_t, ic_f, not_true_eq_false, not_false_eq_true, ↓lt_v, rdR, rdE, rdS, leT, leTc, leTd, leF, leFc, leFd, ltT, ltTc, ltTd, ltF, ltFc, ltFd, eqT, eqTc, eqTd, eqF, eqFc, eqFd, m1T, m1F, m1T', m1F', inb_nI, ix_nI, inb_c, ix_c, nI_1, nI_pred, nI_m1, add_nIc, add_cnI, bd_v, reduceCtorEq, eqFcc, m1e0, m1e1, m1l0, m1g0, m2l0, m2g0, Int32.reduceLT, Int32.reduceLE, Int32.reduceAdd, Int32.reduceSub, Int32.reduceMul, eq_self, Bool.false_eq_true, e3]
    generalize hg : fX10_fitting_19 fu = gg at ih ⊢
    have hFU2 : 2000 < FU := FU_big
    generalize FU = fu1 at hFU2 ⊢
    refine ok_loop h (fun fu i (z : Int32) => fX10_fitting_32 gg fu s (nI b) z (nI i) M1) (fun i (z : Int32) => z = bI (fp v (TT F n v) w u b i)) ?_ ?_ fu1 0 1 (by omega) (by omega) rfl
    · intro fu i z hi hz ih'
      obtain ⟨d1, d2, d3⟩ := k2 i hi
      have d1' : M1.1 198 i = nI (w i) := by rw [hf.1 198 (by omega) (by unfold PRr; omega)]; exact d1
      have d2' : M1.1 199 i = nI (u i) := by rw [hf.1 199 (by omega) (by unfold PRr; omega)]; exact d2
      have hso := r_isSo hn hv1 hL (tb_TT hc.1) (m_TT hc.1) d3 hb
      have hst : fp v (TT F n v) w u b (i + 1) = (fp v (TT F n v) w u b i && so v (TT F n v) (w i) (u i) b) := rfl
      rw [e_X10_fitting_32]
      simp (disch := omega) only [↓reduceIte, ic_t, ic_f, not_true_eq_false, not_false_eq_true, ↓lt_v, rdR, rdE, rdS, leT, leTc, leTd, leF, leFc, leFd, ltT, ltTc, ltTd, ltF, ltFc, ltFd, eqT, eqTc, eqTd, eqF, eqFc, eqFd, m1T, m1F, m1T', m1F', inb_nI, ix_nI, inb_c, ix_c, nI_1, nI_pred, nI_m1, add_nIc, add_cnI, bd_v, reduceCtorEq, eqFcc, m1e0, m1e1, m1l0, m1g0, m2l0, m2g0, Int32.reduceLT, Int32.reduceLE, Int32.reduceAdd, Int32.reduceSub, Int32.reduceMul, eq_self, Bool.false_eq_true, k1', hz, d1', d2', hso, bI_0]
      cases hf1 : fp v (TT F n v) w u b i
      · simp (disch := omega) only [↓reduceIte, ic_t, ic_f, not_true_eq_false, not_false_eq_true, ↓lt_v, rdR, rdE, rdS, leT, leTc, leTd, leF, leFc, leFd, ltT, ltTc, ltTd, ltF, ltFc, ltFd, eqT, eqTc, eqTd, eqF, eqFc, eqFd, m1T, m1F, m1T', m1F', inb_nI, ix_nI, inb_c, ix_c, nI_1, nI_pred, nI_m1, add_nIc, add_cnI, bd_v, reduceCtorEq, eqFcc, m1e0, m1e1, m1l0, m1g0, m2l0, m2g0, Int32.reduceLT, Int32.reduceLE, Int32.reduceAdd, Int32.reduceSub, Int32.reduceMul, eq_self, Bool.false_eq_true]
        exact ih' 0 (by rw [hst, hf1]; rfl)
      · cases hs1 : so v (TT F n v) (w i) (u i) b
        · simp (disch := omega) only [↓reduceIte, ic_t, ic_f, not_true_eq_false, not_false_eq_true, ↓lt_v, rdR, rdE, rdS, leT, leTc, leTd, leF, leFc, leFd, ltT, ltTc, ltTd, ltF, ltFc, ltFd, eqT, eqTc, eqTd, eqF, eqFc, eqFd, m1T, m1F, m1T', m1F', inb_nI, ix_nI, inb_c, ix_c, nI_1, nI_pred, nI_m1, add_nIc, add_cnI, bd_v, reduceCtorEq, eqFcc, m1e0, m1e1, m1l0, m1g0, m2l0, m2g0, Int32.reduceLT, Int32.reduceLE, Int32.reduceAdd, Int32.reduceSub, Int32.reduceMul, eq_self, Bool.false_eq_true]
          exact ih' 0 (by rw [hst, hf1, hs1]; rfl)
        · simp (disch := omega) only [↓reduceIte, ic_t, ic_f, not_true_eq_false, not_false_eq_true, ↓lt_v, rdR, rdE, rdS, leT, leTc, leTd, leF, leFc, leFd, ltT, ltTc, ltTd, ltF, ltFc, ltFd, eqT, eqTc, eqTd, eqF, eqFc, eqFd, m1T, m1F, m1T', m1F', inb_nI, ix_nI, inb_c, ix_c, nI_1, nI_pred, nI_m1, add_nIc, add_cnI, bd_v, reduceCtorEq, eqFcc, m1e0, m1e1, m1l0, m1g0, m2l0, m2g0, Int32.reduceLT, Int32.reduceLE, Int32.reduceAdd, Int32.reduceSub, Int32.reduceMul, eq_self, Bool.false_eq_true]
          exact ih' 1 (by rw [hst, hf1, hs1]; rfl)
    · intro fu z hz
      have hst : bm (fun b => fp v (TT F n v) w u b h) (b + 1) = if fp v (TT F n v) w u b h = true then bm (fun b => fp v (TT F n v) w u b h) b ||| (1 <<< b) else bm (fun b => fp v (TT F n v) w u b h) b := rfl
      rw [e_X10_fitting_32]
      simp (disch := omega) only [↓reduceIte, ic_t, ic_f, not_true_eq_false, not_false_eq_true, ↓lt_v, rdR, rdE, rdS, leT, leTc, leTd, leF, leFc, leFd, ltT, ltTc, ltTd, ltF, ltFc, ltFd, eqT, eqTc, eqTd, eqF, eqFc, eqFd, m1T, m1F, m1T', m1F', inb_nI, ix_nI, inb_c, ix_c, nI_1, nI_pred, nI_m1, add_nIc, add_cnI, bd_v, reduceCtorEq, eqFcc, m1e0, m1e1, m1l0, m1g0, m2l0, m2g0, Int32.reduceLT, Int32.reduceLE, Int32.reduceAdd, Int32.reduceSub, Int32.reduceMul, eq_self, Bool.false_eq_true, k1', hz, bI_0]
      cases hf1 : fp v (TT F n v) w u b h
      · rw [hf1] at hst
        simp (disch := omega) only [↓reduceIte, ic_t, ic_f, not_true_eq_false, not_false_eq_true, ↓lt_v, rdR, rdE, rdS, leT, leTc, leTd, leF, leFc, leFd, ltT, ltTc, ltTd, ltF, ltFc, ltFd, eqT, eqTc, eqTd, eqF, eqFc, eqFd, m1T, m1F, m1T', m1F', inb_nI, ix_nI, inb_c, ix_c, nI_1, nI_pred, nI_m1, add_nIc, add_cnI, bd_v, reduceCtorEq, eqFcc, m1e0, m1e1, m1l0, m1g0, m2l0, m2g0, Int32.reduceLT, Int32.reduceLE, Int32.reduceAdd, Int32.reduceSub, Int32.reduceMul, eq_self, Bool.false_eq_true]
        refine ih _ ?_
        rw [hst, hs]
        simp [Int32.or_zero]
      · rw [hf1, if_pos rfl] at hst
        simp (disch := omega) only [↓reduceIte, ic_t, ic_f, not_true_eq_false, not_false_eq_true, ↓lt_v, rdR, rdE, rdS, leT, leTc, leTd, leF, leFc, leFd, ltT, ltTc, ltTd, ltF, ltFc, ltFd, eqT, eqTc, eqTd, eqF, eqFc, eqFd, m1T, m1F, m1T', m1F', inb_nI, ix_nI, inb_c, ix_c, nI_1, nI_pred, nI_m1, add_nIc, add_cnI, bd_v, reduceCtorEq, eqFcc, m1e0, m1e1, m1l0, m1g0, m2l0, m2g0, Int32.reduceLT, Int32.reduceLE, Int32.reduceAdd, Int32.reduceSub, Int32.reduceMul, eq_self, Bool.false_eq_true]
        refine ih _ ?_
        rw [hst, hs]
        exact (bt_or _ (bm_p _ b (by omega)).1 b (by omega)).1.1
  · intro fu s hs
    rw [e_X10_fitting_19]
    simp (disch := omega) only [↓reduceIte, ic_t, ic_f, not_true_eq_false, not_false_eq_true, ↓lt_v, rdR, rdE, rdS, leT, leTc, leTd, leF, leFc, leFd, ltT, ltTc, ltTd, ltF, ltFc, ltFd, eqT, eqTc, eqTd, eqF, eqFc, eqFd, m1T, m1F, m1T', m1F', inb_nI, ix_nI, inb_c, ix_c, nI_1, nI_pred, nI_m1, add_nIc, add_cnI, bd_v, reduceCtorEq, eqFcc, m1e0, m1e1, m1l0, m1g0, m2l0, m2g0, Int32.reduceLT, Int32.reduceLE, Int32.reduceAdd, Int32.reduceSub, Int32.reduceMul, eq_self, Bool.false_eq_true, e3]
    exact ok_some ⟨hs, ⟨L, hL⟩, hf⟩
theorem r_fits {M : Mem} {n h : Nat} {v : VV} {F : (Nat → Int32) → Int32} {w u : Nat → Nat} (hc : RR n v F M) (hh : HR h w u M) : Ok (fX10_fits M) (QR (nI (bm (fun b => fp v (TT F n v) w u b h) n)) (some [(nI (cnt (fun b => fp v (TT F n v) w u b h) n)).toInt64]) M) := by
  have hn : n ≤ 6 := hc.1.1
  obtain ⟨hc0, hf0⟩ := r_thrown0 hc
  have hh0 : HR h w u (sI M 169 0 0) := ⟨hh.1, by simp (disch := omega) only [↓reduceIte, ic_t, ic_f, not_true_eq_false, not_false_eq_true, ↓lt_v, rdR, rdE, rdS, leT, leTc, leTd, leF, leFc, leFd, ltT, ltTc, ltTd, ltF, ltFc, ltFd, eqT, eqTc, eqTd, eqF, eqFc, eqFd, m1T, m1F, m1T', m1F', inb_nI, ix_nI, inb_c, ix_c, nI_1, nI_pred, nI_m1, add_nIc, add_cnI, bd_v, reduceCtorEq, eqFcc, m1e0, m1e1, m1l0, m1g0, m2l0, m2g0, Int32.reduceLT, Int32.reduceLE, Int32.reduceAdd, Int32.reduceSub, Int32.reduceMul, eq_self, Bool.false_eq_true, hh.2.1], fun i hi => by simp (disch := omega) only [↓reduceIte, ic_t, ic_f, not_true_eq_false, not_false_eq_true, ↓lt_v, rdR, rdE, rdS, leT, leTc, leTd, leF, leFc, leFd, ltT, ltTc, ltTd, ltF, ltFc, ltFd, eqT, eqTc, eqTd, eqF, eqFc, eqFd, m1T, m1F, m1T', m1F', inb_nI, ix_nI, inb_c, ix_c, nI_1, nI_pred, nI_m1, add_nIc, add_cnI, bd_v, reduceCtorEq, eqFcc, m1e0, m1e1, m1l0, m1g0, m2l0, m2g0, Int32.reduceLT, Int32.reduceLE, Int32.reduceAdd, Int32.reduceSub, Int32.reduceMul, eq_self, Bool.false_eq_true]; exact hh.2.2 i hi⟩
  rw [e_X10_fits]
  simp (disch := omega) only [↓reduceIte, ic_t, ic_f, not_true_eq_false, not_false_eq_true, ↓lt_v, rdR, rdE, rdS, leT, leTc, leTd, leF, leFc, leFd, ltT, ltTc, ltTd, ltF, ltFc, ltFd, eqT, eqTc, eqTd, eqF, eqFc, eqFd, m1T, m1F, m1T', m1F', inb_nI, ix_nI, inb_c, ix_c, nI_1, nI_pred, nI_m1, add_nIc, add_cnI, bd_v, reduceCtorEq, eqFcc, m1e0, m1e1, m1l0, m1g0, m2l0, m2g0, Int32.reduceLT, Int32.reduceLE, Int32.reduceAdd, Int32.reduceSub, Int32.reduceMul, eq_self, Bool.false_eq_true]
  refine ok_call (r_fitting hc0 hh0) (fun q g => ?_)
  rw [g.1, bc_bm hn]
  simp (disch := omega) only [↓reduceIte, ic_t, ic_f, not_true_eq_false, not_false_eq_true, ↓lt_v, rdR, rdE, rdS, leT, leTc, leTd, leF, leFc, leFd, ltT, ltTc, ltTd, ltF, ltFc, ltFd, eqT, eqTc, eqTd, eqF, eqFc, eqFd, m1T, m1F, m1T', m1F', inb_nI, ix_nI, inb_c, ix_c, nI_1, nI_pred, nI_m1, add_nIc, add_cnI, bd_v, reduceCtorEq, eqFcc, m1e0, m1e1, m1l0, m1g0, m2l0, m2g0, Int32.reduceLT, Int32.reduceLE, Int32.reduceAdd, Int32.reduceSub, Int32.reduceMul, eq_self, Bool.false_eq_true]
  exact r_tell1 (kr_1 (frR_trans hf0 (frR_SRu g.2.2))) (fun M2 k1 k2 k3 k4 => ok_some ⟨rfl, k1, k2⟩)
