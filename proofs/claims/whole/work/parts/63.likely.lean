/-! PURE: likely -/
theorem lN_div {a d : Nat} (ha : a < 2 ^ 31) (h0 : 0 < d) (hd : d < 2 ^ 31) : lN a / lN d = lN (a / d) := by
  apply Int64.toInt_inj.mp
  rw [lg_ldiv_nonneg (by rw [lN_toInt ha]; omega) (by rw [lN_toInt hd]; omega), lN_toInt ha, lN_toInt hd, lN_toInt (Nat.lt_of_le_of_lt (Nat.div_le_self a d) ha)]
  first | rfl | exact (Int.natCast_ediv _ _).symm
theorem lN_rem {a d : Nat} (ha : a < 2 ^ 31) (h0 : 0 < d) (hd : d < 2 ^ 31) : lN a - lN a / lN d * lN d = lN (a % d) := by
  rw [lN_div ha h0 hd, lN_mul, lN_sub (Nat.div_mul_le_self a d)]
  exact congrArg lN (by have := Nat.div_add_mod' a d; omega)
/-- so many turns are enough for the greatest common divisor -/
def eu : Nat → Nat → Nat → Prop
  | 0, _, b => b = 0
  | k + 1, a, b => b = 0 ∨ eu k b (a % b)
theorem eu_up : ∀ {k a b}, eu k a b → eu (k + 1) a b
  | 0, _, _, h => Or.inl h
  | k + 1, _, _, h => h.imp id (fun h => eu_up h)
theorem eu_pow : ∀ k a b, b < 2 ^ k → eu (2 * k) a b
  | 0, a, b, h => by
    have : b = 0 := by simpa using h
    exact this
  | k + 1, a, b, h => by
    rw [show 2 * (k + 1) = 2 * k + 1 + 1 by omega]
    by_cases hb : b = 0
    · exact Or.inl hb
    · refine Or.inr ?_
      have hlt := Nat.mod_lt a (show 0 < b by omega)
      have h2 : 2 ^ (k + 1) = 2 * 2 ^ k := by rw [Nat.pow_succ]; omega
      by_cases h1 : a % b < 2 ^ k
      · exact eu_up (eu_pow k b (a % b) h1)
      · refine Or.inr (eu_pow k (a % b) (b % (a % b)) ?_)
        have h3 : b % (a % b) = b - a % b := by
          rw [Nat.mod_eq_sub_mod (by omega)]
          exact Nat.mod_eq_of_lt (by omega)
        omega
theorem c_gcd {M : Mem} : ∀ (k x fu a b : Nat), eu k a b → x + k ≤ 60 → k < fu → a < 2 ^ 31 → b < 2 ^ 31 → fX9_greatestDivisor_7 fu (nI a) (nI b) (nI x) M = some (nI (Nat.gcd a b), M)
  | k, x, 0, a, b, _, _, hf, _, _ => absurd hf (Nat.not_lt_zero _)
  | k, x, fu + 1, a, b, h, hx, hf, ha, hb => by
    rw [e_X9_greatestDivisor_7]
    by_cases h0 : b = 0
    · subst h0
      simp (disch := omega) only [↓reduceIte, ic_t, ic_f, not_true_eq_false, not_false_eq_true, ↓lt_v, rdR, rdE, rdS, leT, leTc, leTd, leF, leFc, leFd, ltT, ltTc, ltTd, ltF, ltFc, ltFd, eqT, eqTc, eqTd, eqF, eqFc, eqFd, m1T, m1F, m1T', m1F', inb_nI, ix_nI, inb_c, ix_c, nI_1, nI_pred, nI_m1, add_nIc, add_cnI, bd_v, reduceCtorEq, eqFcc, m1e0, m1e1, m1l0, m1g0, m2l0, m2g0, Int32.reduceLT, Int32.reduceLE, Int32.reduceAdd, Int32.reduceSub, Int32.reduceMul, eq_self, Bool.false_eq_true]
      rw [Nat.gcd_zero_right]
    · cases k with
      | zero => exact absurd h h0
      | succ k =>
        have h' : eu k b (a % b) := h.resolve_left h0
        have := c_gcd (M := M) k (x + 1) fu b (a % b) h' (by omega) (by omega) hb (Nat.lt_of_lt_of_le (Nat.mod_lt a (by omega)) (by omega))
        simp (disch := omega) only [↓reduceIte, ic_t, ic_f, not_true_eq_false, not_false_eq_true, ↓lt_v, rdR, rdE, rdS, leT, leTc, leTd, leF, leFc, leFd, ltT, ltTc, ltTd, ltF, ltFc, ltFd, eqT, eqTc, eqTd, eqF, eqFc, eqFd, m1T, m1F, m1T', m1F', inb_nI, ix_nI, inb_c, ix_c, nI_1, nI_pred, nI_m1, add_nIc, add_cnI, bd_v, reduceCtorEq, eqFcc, m1e0, m1e1, m1l0, m1g0, m2l0, m2g0, Int32.reduceLT, Int32.reduceLE, Int32.reduceAdd, Int32.reduceSub, Int32.reduceMul, eq_self, Bool.false_eq_true, pk_rem, this]
        rw [Nat.gcd_comm a b, Nat.gcd_rec b a, Nat.gcd_comm]
theorem r_gcd {M : Mem} : ∀ (k fu a b : Nat), eu k a b → k < fu → a < 2 ^ 31 → b < 2 ^ 31 → fX10_common fu (lN a) (lN b) M = some (lN (Nat.gcd a b), M)
  | k, 0, a, b, _, hf, _, _ => absurd hf (Nat.not_lt_zero _)
  | k, fu + 1, a, b, h, hf, ha, hb => by
    rw [e_X10_common, e_X10_common_b]
    by_cases h0 : b = 0
    · subst h0
      rw [ic_pos (show lg_cmp (lN 0) 0 = 0 from (lg_cmp_eq _ _).mpr rfl), Nat.gcd_zero_right]
    · have hz : ¬ lN b = 0 := fun q => h0 ((lN_eq (b := 0) hb (by omega)).mp q)
      rw [ic_neg (fun q => hz ((lg_cmp_eq _ _).mp q)), ic_pos hz]
      cases k with
      | zero => exact absurd h h0
      | succ k =>
        have h' : eu k b (a % b) := h.resolve_left h0
        have := r_gcd (M := M) k fu b (a % b) h' (by omega) hb (Nat.lt_of_lt_of_le (Nat.mod_lt a (by omega)) (by omega))
        rw [lN_rem ha (by omega) hb, this]
        simp (disch := omega) only [↓reduceIte, ic_t, ic_f, not_true_eq_false, not_false_eq_true, ↓lt_v, rdR, rdE, rdS, leT, leTc, leTd, leF, leFc, leFd, ltT, ltTc, ltTd, ltF, ltFc, ltFd, eqT, eqTc, eqTd, eqF, eqFc, eqFd, m1T, m1F, m1T', m1F', inb_nI, ix_nI, inb_c, ix_c, nI_1, nI_pred, nI_m1, add_nIc, add_cnI, bd_v, reduceCtorEq, eqFcc, m1e0, m1e1, m1l0, m1g0, m2l0, m2g0, Int32.reduceLT, Int32.reduceLE, Int32.reduceAdd, Int32.reduceSub, Int32.reduceMul, eq_self, Bool.false_eq_true]
        rw [Nat.gcd_comm a b, Nat.gcd_rec b a, Nat.gcd_comm]
theorem bt_bit : ∀ x, x < 64 → ∀ b, b < 6 → ((nI x >>> (nI b &&& 31)) &&& 1) = bI (x.testBit b) := by decide +kernel
theorem bt_shl : ∀ n, n < 7 → ((1 : Int32) <<< (nI n &&& 31)) = nI (2 ^ n) ∧ 2 ^ n ≤ 64 := by decide +kernel
def wt (p s : Nat) : Nat → Nat
  | 0 => 1
  | k + 1 => wt p s k * (if s.testBit k = true then p else 10 - p)
theorem wt_le {p s : Nat} (hp : p ≤ 10) : ∀ k, wt p s k ≤ 10 ^ k
  | 0 => Nat.le_refl _
  | k + 1 => by
    unfold wt
    rw [Nat.pow_succ]
    refine Nat.mul_le_mul (wt_le hp k) ?_
    split <;> omega
theorem p10 {k : Nat} (h : k ≤ 6) : 10 ^ k ≤ 1000000 := Nat.pow_le_pow_right (n := 10) (by decide) h
def lkV (n s : Nat) (v : VV) : VV := (fun i => if i < n then v.1 i + bI (s.testBit i) else v.1 i, v.2)
theorem wf_lkV {n s : Nat} {v : VV} (h : WfV n v) : WfV n (lkV n s v) := by
  have hn : n ≤ 6 := h.1
  have e : ∀ j, 12 ≤ j → (lkV n s v).1 j = v.1 j := fun j hj => if_neg (by omega)
  exact ⟨h.1, fun k hk => ⟨(h.2.1 k hk).1, (e _ (by omega)).trans (h.2.1 k hk).2⟩, h.2.2.1, by rw [e 18 (by omega)]; exact h.2.2.2.1, by rw [e 19 (by omega)]; exact h.2.2.2.2⟩
def lkT (F : (Nat → Int32) → Int32) (n : Nat) (v : VV) (s : Nat) : TS := TT F n (lkV n s v)
def lkU (F : (Nat → Int32) → Int32) (n : Nat) (v : VV) (b p : Nat) : Nat → Nat
  | 0 => 0
  | s + 1 => lkU F n v b p s + (if fq (lkT F n v s).2.2.2.1 (lkT F n v s).2.1 (nI b) = 0 then 0 else wt p s n)
theorem lkU_le {F : (Nat → Int32) → Int32} {n b p : Nat} {v : VV} (hn : n ≤ 6) (hp : p ≤ 10) : ∀ s, lkU F n v b p s ≤ 1000000 * s
  | 0 => Nat.le_refl _
  | s + 1 => by
    have := lkU_le (F := F) (b := b) (v := v) hn hp s
    have h2 := Nat.le_trans (wt_le (s := s) hp n) (p10 hn)
    unfold lkU
    split <;> omega
def lkL (F : (Nat → Int32) → Int32) (n : Nat) (v : VV) (b p : Nat) : List Int64 := [lN (lkU F n v b p (2 ^ n) / Nat.gcd (lkU F n v b p (2 ^ n)) (10 ^ n)), lN (10 ^ n / Nat.gcd (lkU F n v b p (2 ^ n)) (10 ^ n))]
theorem c_weight {M : Mem} {n s p : Nat} (hn : n ≤ 6) (hs : s < 64) (hp : p ≤ 10) (h6 : M.1 6 0 = nI n) : fX9_weightOf (nI s) (nI p) M = some (nI (wt p s n), M) := by
  have : Ok (fX9_weightOf (nI s) (nI p) M) (fun q => q = (nI (wt p s n), M)) := by
    rw [e_X9_weightOf]
    have hFU : 2000 < FU := FU_big
    generalize FU = fu0 at hFU ⊢
    refine ok_loop n (fun fu k (z : Int32) => fX9_weightOf_5 fu (nI s) (nI p) z (nI k) M) (fun k (z : Int32) => z = nI (wt p s k)) ?_ ?_ fu0 0 1 (by omega) (by omega) rfl
    · intro fu k z hk hz ih
      have hb := bt_bit s hs k (by omega)
      have h10 : (10 : Int32) - nI p = nI (10 - p) := by rw [show (10 : Int32) = nI 10 from rfl]; exact pk_sub hp
      have hst : wt p s (k + 1) = wt p s k * (if s.testBit k = true then p else 10 - p) := rfl
      rw [e_X9_weightOf_5]
      simp (disch := omega) only [↓reduceIte, ic_t, ic_f, not_true_eq_false, not_false_eq_true, ↓lt_v, rdR, rdE, rdS, leT, leTc, leTd, leF, leFc, leFd, ltT, ltTc, ltTd, ltF, ltFc, ltFd, eqT, eqTc, eqTd, eqF, eqFc, eqFd, m1T, m1F, m1T', m1F', inb_nI, ix_nI, inb_c, ix_c, nI_1, nI_pred, nI_m1, add_nIc, add_cnI, bd_v, reduceCtorEq, eqFcc, m1e0, m1e1, m1l0, m1g0, m2l0, m2g0, Int32.reduceLT, Int32.reduceLE, Int32.reduceAdd, Int32.reduceSub, Int32.reduceMul, eq_self, Bool.false_eq_true, h6, hb, bI_0]
      cases ht : s.testBit k
      · simp (disch := omega) only [↓reduceIte, ic_t, ic_f, not_true_eq_false, not_false_eq_true, ↓lt_v, rdR, rdE, rdS, leT, leTc, leTd, leF, leFc, leFd, ltT, ltTc, ltTd, ltF, ltFc, ltFd, eqT, eqTc, eqTd, eqF, eqFc, eqFd, m1T, m1F, m1T', m1F', inb_nI, ix_nI, inb_c, ix_c, nI_1, nI_pred, nI_m1, add_nIc, add_cnI, bd_v, reduceCtorEq, eqFcc, m1e0, m1e1, m1l0, m1g0, m2l0, m2g0, Int32.reduceLT, Int32.reduceLE, Int32.reduceAdd, Int32.reduceSub, Int32.reduceMul, eq_self, Bool.false_eq_true, hz, h10, pk_mul]
        exact ih _ (by rw [hst, ht]; rfl)
      · simp (disch := omega) only [↓reduceIte, ic_t, ic_f, not_true_eq_false, not_false_eq_true, ↓lt_v, rdR, rdE, rdS, leT, leTc, leTd, leF, leFc, leFd, ltT, ltTc, ltTd, ltF, ltFc, ltFd, eqT, eqTc, eqTd, eqF, eqFc, eqFd, m1T, m1F, m1T', m1F', inb_nI, ix_nI, inb_c, ix_c, nI_1, nI_pred, nI_m1, add_nIc, add_cnI, bd_v, reduceCtorEq, eqFcc, m1e0, m1e1, m1l0, m1g0, m2l0, m2g0, Int32.reduceLT, Int32.reduceLE, Int32.reduceAdd, Int32.reduceSub, Int32.reduceMul, eq_self, Bool.false_eq_true, hz, pk_mul]
        exact ih _ (by rw [hst, ht]; rfl)
    · intro fu z hz
      rw [e_X9_weightOf_5]
      simp (disch := omega) only [↓reduceIte, ic_t, ic_f, not_true_eq_false, not_false_eq_true, ↓lt_v, rdR, rdE, rdS, leT, leTc, leTd, leF, leFc, leFd, ltT, ltTc, ltTd, ltF, ltFc, ltFd, eqT, eqTc, eqTd, eqF, eqFc, eqFd, m1T, m1F, m1T', m1F', inb_nI, ix_nI, inb_c, ix_c, nI_1, nI_pred, nI_m1, add_nIc, add_cnI, bd_v, reduceCtorEq, eqFcc, m1e0, m1e1, m1l0, m1g0, m2l0, m2g0, Int32.reduceLT, Int32.reduceLE, Int32.reduceAdd, Int32.reduceSub, Int32.reduceMul, eq_self, Bool.false_eq_true, h6, hz]
      exact ok_some rfl
  obtain ⟨q, h1, h2⟩ := this
  rw [h1, h2]
theorem c_better {M : Mem} {n s : Nat} {v : VV} {o : Nat → Nat} {w : Nat → Int32} (hn : n ≤ 6) (hs : s < 64) (hv6 : RvC 6 n v M) (hv : RivC 16 n w o M) (ho : o = v.2) (hw : ∀ i, 6 ≤ i → w i = v.1 i) : Ok (fX9_rowBetter (nI s) M) (fun M' => RvC 16 n (lkV n s v) M' ∧ Fr (fun a => a = 17) M M') := by
  obtain ⟨v1, v2, v3, v4, v5, v6, v7, v8, v9⟩ := hv
  have e6 := hv6.1
  have hi : ∀ i, 6 ≤ i → (lkV n s v).1 i = v.1 i := fun i hi => if_neg (by omega)
  rw [e_X9_rowBetter]
  have hFU : 2000 < FU := FU_big
  generalize FU = fu0 at hFU ⊢
  refine ok_loop n (fun fu k s' => fX9_rowBetter_2 fu (nI s) (nI k) s') (fun k s' => (∀ i, i < k → s'.1 17 i = (lkV n s v).1 i) ∧ Fr (fun a => a = 17) M s') ?_ ?_ fu0 0 M (by omega) (by omega) ⟨fun i hi => absurd hi (Nat.not_lt_zero _), fr_rfl⟩
  · intro fu k s' hk hs' ih
    obtain ⟨b1, b2⟩ := hs'
    have e6' : s'.1 6 0 = nI n := by rw [b2.1 6 (by omega)]; exact e6
    have e7 : s'.1 7 k = v.1 k := by rw [b2.1 7 (by omega)]; exact hv6.2.1 k hk
    have hb := bt_bit s hs k (by omega)
    rw [e_X9_rowBetter_2]
    simp (disch := omega) only [↓reduceIte, ic_t, ic_f, not_true_eq_false, not_false_eq_true, ↓lt_v, rdR, rdE, rdS, leT, leTc, leTd, leF, leFc, leFd, ltT, ltTc, ltTd, ltF, ltFc, ltFd, eqT, eqTc, eqTd, eqF, eqFc, eqFd, m1T, m1F, m1T', m1F', inb_nI, ix_nI, inb_c, ix_c, nI_1, nI_pred, nI_m1, add_nIc, add_cnI, bd_v, reduceCtorEq, eqFcc, m1e0, m1e1, m1l0, m1g0, m2l0, m2g0, Int32.reduceLT, Int32.reduceLE, Int32.reduceAdd, Int32.reduceSub, Int32.reduceMul, eq_self, Bool.false_eq_true, e6', e7, hb]
    refine ih _ ⟨fun i hi => ?_, fr_trans b2 (fr_sI rfl)⟩
    by_cases ei : i = k
    · subst ei
      simp (disch := omega) only [↓reduceIte, ic_t, ic_f, not_true_eq_false, not_false_eq_true, ↓lt_v, rdR, rdE, rdS, leT, leTc, leTd, leF, leFc, leFd, ltT, ltTc, ltTd, ltF, ltFc, ltFd, eqT, eqTc, eqTd, eqF, eqFc, eqFd, m1T, m1F, m1T', m1F', inb_nI, ix_nI, inb_c, ix_c, nI_1, nI_pred, nI_m1, add_nIc, add_cnI, bd_v, reduceCtorEq, eqFcc, m1e0, m1e1, m1l0, m1g0, m2l0, m2g0, Int32.reduceLT, Int32.reduceLE, Int32.reduceAdd, Int32.reduceSub, Int32.reduceMul, eq_self, Bool.false_eq_true]
      show _ = (if i < n then v.1 i + bI (s.testBit i) else v.1 i)
      rw [if_pos hk]
    · simp (disch := omega) only [↓reduceIte, ic_t, ic_f, not_true_eq_false, not_false_eq_true, ↓lt_v, rdR, rdE, rdS, leT, leTc, leTd, leF, leFc, leFd, ltT, ltTc, ltTd, ltF, ltFc, ltFd, eqT, eqTc, eqTd, eqF, eqFc, eqFd, m1T, m1F, m1T', m1F', inb_nI, ix_nI, inb_c, ix_c, nI_1, nI_pred, nI_m1, add_nIc, add_cnI, bd_v, reduceCtorEq, eqFcc, m1e0, m1e1, m1l0, m1g0, m2l0, m2g0, Int32.reduceLT, Int32.reduceLE, Int32.reduceAdd, Int32.reduceSub, Int32.reduceMul, eq_self, Bool.false_eq_true]
      exact b1 i (by omega)
  · intro fu s' hs'
    obtain ⟨b1, b2⟩ := hs'
    have e6' : s'.1 6 0 = nI n := by rw [b2.1 6 (by omega)]; exact e6
    rw [e_X9_rowBetter_2]
    simp (disch := omega) only [↓reduceIte, ic_t, ic_f, not_true_eq_false, not_false_eq_true, ↓lt_v, rdR, rdE, rdS, leT, leTc, leTd, leF, leFc, leFd, ltT, ltTc, ltTd, ltF, ltFc, ltFd, eqT, eqTc, eqTd, eqF, eqFc, eqFd, m1T, m1F, m1T', m1F', inb_nI, ix_nI, inb_c, ix_c, nI_1, nI_pred, nI_m1, add_nIc, add_cnI, bd_v, reduceCtorEq, eqFcc, m1e0, m1e1, m1l0, m1g0, m2l0, m2g0, Int32.reduceLT, Int32.reduceLE, Int32.reduceAdd, Int32.reduceSub, Int32.reduceMul, eq_self, Bool.false_eq_true, e6']
    refine ok_some ⟨⟨?_, b1, fun b hb => ?_, fun b hb => ?_, fun k hk => ?_, ?_, ?_, ?_, ?_⟩, b2⟩
    · rw [b2.1 16 (by omega)]; exact v1
    · rw [b2.1 (16 + 2) (by omega), v3 b hb, hi _ (by omega), hw _ (by omega)]
    · rw [b2.1 (16 + 3) (by omega), v4 b hb, hi _ (by omega), hw _ (by omega)]
    · rw [b2.1 (16 + 4) (by omega), v5 k hk, ho]; rfl
    · rw [b2.1 16 (by omega), v6, hi _ (by omega), hw _ (by omega)]
    · rw [b2.1 16 (by omega), v7, hi _ (by omega), hw _ (by omega)]
    · rw [b2.1 16 (by omega), v8, hi _ (by omega), hw _ (by omega)]
    · rw [b2.1 16 (by omega), v9, hi _ (by omega), hw _ (by omega)]
theorem c_likely {M : Mem} {n R b p : Nat} {v : VV} {F : (Nat → Int32) → Int32} (hc : CR n v F R M) (hb : b < n) (hp : p ≤ 10) : Ok (fX9_likely (nI b) (nI p) M) (QC 0 (some (lkL F n v b p)) M) := by
  have hn : n ≤ 6 := hc.1.1
  have hR := hc.2.2.2.2
  have hh := has_in hc.2.1.1 hn hb
  have h10 := p10 hn
  obtain ⟨shl, h64⟩ := bt_shl n (by omega)
  have hU := lkU_le (F := F) (b := b) (v := v) hn hp
  rw [e_X9_likely]
  simp (disch := omega) only [↓reduceIte, ic_t, ic_f, not_true_eq_false, not_false_eq_true, ↓lt_v, rdR, rdE, rdS, leT, leTc, leTd, leF, leFc, leFd, ltT, ltTc, ltTd, ltF, ltFc, ltFd, eqT, eqTc, eqTd, eqF, eqFc, eqFd, m1T, m1F, m1T', m1F', inb_nI, ix_nI, inb_c, ix_c, nI_1, nI_pred, nI_m1, add_nIc, add_cnI, bd_v, reduceCtorEq, eqFcc, m1e0, m1e1, m1l0, m1g0, m2l0, m2g0, Int32.reduceLT, Int32.reduceLE, Int32.reduceAdd, Int32.reduceSub, Int32.reduceMul, eq_self, Bool.false_eq_true, hh]
  refine c_trial hc (fun M1 g1 g2 g3 g4 => ?_)
  have tail : Ok (fX9_likely_70 FU (nI b) (nI p) 0 (nI (10 ^ n)) 0 M1) (QC 0 (some (lkL F n v b p)) M) := by
    have hFU : 2000 < FU := FU_big
    generalize FU = fu0 at hFU ⊢
    refine ok_loop (2 ^ n) (fun fu k (s : Int32 × Mem) => fX9_likely_70 fu (nI b) (nI p) s.1 (nI (10 ^ n)) (nI k) s.2) (fun k s => s.1 = nI (lkU F n v b p k) ∧ CR n v F R s.2 ∧ (∃ w, RivC 16 n w v.2 s.2 ∧ ∀ i, 6 ≤ i → w i = v.1 i) ∧ Fr SC M s.2) ?_ ?_ fu0 0 (0, M1) (Nat.zero_le _) (by omega) ⟨rfl, g2, ⟨v.1, g1, fun _ _ => rfl⟩, g4⟩
    · intro fu k s hk hs ih
      obtain ⟨b1, b2, ⟨w, b3, b4⟩, b5⟩ := hs
      have e6 := b2.2.1.1
      have hwt := c_weight (M := s.2) (s := k) hn (by omega) hp e6
      have hst : lkU F n v b p (k + 1) = lkU F n v b p k + (if fq (lkT F n v k).2.2.2.1 (lkT F n v k).2.1 (nI b) = 0 then 0 else wt p k n) := rfl
      have hwl := Nat.le_trans (wt_le (s := k) hp n) h10
      have hUk := hU k
      rw [e_X9_likely_70]
      simp (disch := omega) only [↓reduceIte, ic_t, ic_f, not_true_eq_false, not_false_eq_true, ↓lt_v, rdR, rdE, rdS, leT, leTc, leTd, leF, leFc, leFd, ltT, ltTc, ltTd, ltF, ltFc, ltFd, eqT, eqTc, eqTd, eqF, eqFc, eqFd, m1T, m1F, m1T', m1F', inb_nI, ix_nI, inb_c, ix_c, nI_1, nI_pred, nI_m1, add_nIc, add_cnI, bd_v, reduceCtorEq, eqFcc, m1e0, m1e1, m1l0, m1g0, m2l0, m2g0, Int32.reduceLT, Int32.reduceLE, Int32.reduceAdd, Int32.reduceSub, Int32.reduceMul, eq_self, Bool.false_eq_true, e6, shl, hwt]
      by_cases h0 : wt p k n = 0
      · simp (disch := omega) only [↓reduceIte, ic_t, ic_f, not_true_eq_false, not_false_eq_true, ↓lt_v, rdR, rdE, rdS, leT, leTc, leTd, leF, leFc, leFd, ltT, ltTc, ltTd, ltF, ltFc, ltFd, eqT, eqTc, eqTd, eqF, eqFc, eqFd, m1T, m1F, m1T', m1F', inb_nI, ix_nI, inb_c, ix_c, nI_1, nI_pred, nI_m1, add_nIc, add_cnI, bd_v, reduceCtorEq, eqFcc, m1e0, m1e1, m1l0, m1g0, m2l0, m2g0, Int32.reduceLT, Int32.reduceLE, Int32.reduceAdd, Int32.reduceSub, Int32.reduceMul, eq_self, Bool.false_eq_true, h0]
        refine ih (s.1, s.2) ⟨?_, b2, ⟨w, b3, b4⟩, b5⟩
        rw [hst, h0, b1]
        simp
      · simp (disch := omega) only [↓reduceIte, ic_t, ic_f, not_true_eq_false, not_false_eq_true, ↓lt_v, rdR, rdE, rdS, leT, leTc, leTd, leF, leFc, leFd, ltT, ltTc, ltTd, ltF, ltFc, ltFd, eqT, eqTc, eqTd, eqF, eqFc, eqFd, m1T, m1F, m1T', m1F', inb_nI, ix_nI, inb_c, ix_c, nI_1, nI_pred, nI_m1, add_nIc, add_cnI, bd_v, reduceCtorEq, eqFcc, m1e0, m1e1, m1l0, m1g0, m2l0, m2g0, Int32.reduceLT, Int32.reduceLE, Int32.reduceAdd, Int32.reduceSub, Int32.reduceMul, eq_self, Bool.false_eq_true]
        refine ok_call (c_better hn (by omega) b2.2.1 b3 rfl b4) (fun M2 q => ?_)
        obtain ⟨q1, q2⟩ := q
        have hc2 := cr_fr b2 (fr_sub q2 (fun a ha => by unfold SC; omega))
        rw [hc2.2.2.2.1]
        refine ok_call (c_runT (wf_lkV hc.1) (by omega) hR q1 hc2.2.2.1) (fun M3 j => ?_)
        obtain ⟨⟨L, hL⟩, hf⟩ := j
        have hL : RcC n L (lkT F n v k) M3 := hL
        have hm : (lkT F n v k).2.1 ≤ 3 := m_TT (wf_lkV hc.1)
        have hTB : TB n (lkT F n v k) := tb_TT (wf_lkV hc.1)
        have ht := (c_tq (x := nI b) hm hL).1
        have hc3 := cr_fr hc2 (fr_SCu hf hR)
        have st3 : ∃ w, RivC 16 n w v.2 M3 ∧ ∀ i, 6 ≤ i → w i = v.1 i := ⟨(lkV n k v).1, rivC_fr q1 (fun a h1 h2 => hf.1 a (by unfold PRu; omega)), fun i hi => if_neg (by omega)⟩
        have f3 : Fr SC M M3 := fr_trans b5 (fr_trans (fr_sub q2 (fun a ha => by unfold SC; omega)) (fr_SCu hf hR))
        simp (disch := omega) only [↓reduceIte, ic_t, ic_f, not_true_eq_false, not_false_eq_true, ↓lt_v, rdR, rdE, rdS, leT, leTc, leTd, leF, leFc, leFd, ltT, ltTc, ltTd, ltF, ltFc, ltFd, eqT, eqTc, eqTd, eqF, eqFc, eqFd, m1T, m1F, m1T', m1F', inb_nI, ix_nI, inb_c, ix_c, nI_1, nI_pred, nI_m1, add_nIc, add_cnI, bd_v, reduceCtorEq, eqFcc, m1e0, m1e1, m1l0, m1g0, m2l0, m2g0, Int32.reduceLT, Int32.reduceLE, Int32.reduceAdd, Int32.reduceSub, Int32.reduceMul, eq_self, Bool.false_eq_true, ht, tq_neg hn hTB]
        by_cases h1 : fq (lkT F n v k).2.2.2.1 (lkT F n v k).2.1 (nI b) = 0
        · rw [ic_pos h1]
          refine ih (_, M3) ⟨?_, hc3, st3, f3⟩
          rw [hst, if_pos h1, b1]
          simp [Int32.add_zero]
        · rw [ic_neg h1]
          refine ih (_, M3) ⟨?_, hc3, st3, f3⟩
          rw [hst, if_neg h1, b1, nI_add]
    · intro fu s hs
      obtain ⟨b1, b2, b3, b5⟩ := hs
      have e6 := b2.2.1.1
      have hUk := hU (2 ^ n)
      have hp0 : 0 < 10 ^ n := Nat.pow_pos (by decide)
      have hgp : 0 < Nat.gcd (lkU F n v b p (2 ^ n)) (10 ^ n) := Nat.gcd_pos_of_pos_right _ hp0
      have hgl := Nat.gcd_le_right (lkU F n v b p (2 ^ n)) hp0
      have hg : fX9_greatestDivisor (nI (lkU F n v b p (2 ^ n))) (nI (10 ^ n)) s.2 = some (nI (Nat.gcd (lkU F n v b p (2 ^ n)) (10 ^ n)), s.2) := by
        rw [e_X9_greatestDivisor]
        exact c_gcd (2 * 20) 0 FU _ _ (eu_pow 20 _ _ (by omega)) (by omega) (FU_gt (by omega)) (by omega) (by omega)
      rw [e_X9_likely_70]
      simp (disch := omega) only [↓reduceIte, ic_t, ic_f, not_true_eq_false, not_false_eq_true, ↓lt_v, rdR, rdE, rdS, leT, leTc, leTd, leF, leFc, leFd, ltT, ltTc, ltTd, ltF, ltFc, ltFd, eqT, eqTc, eqTd, eqF, eqFc, eqFd, m1T, m1F, m1T', m1F', inb_nI, ix_nI, inb_c, ix_c, nI_1, nI_pred, nI_m1, add_nIc, add_cnI, bd_v, reduceCtorEq, eqFcc, m1e0, m1e1, m1l0, m1g0, m2l0, m2g0, Int32.reduceLT, Int32.reduceLE, Int32.reduceAdd, Int32.reduceSub, Int32.reduceMul, eq_self, Bool.false_eq_true, e6, shl, b1, hg, pk_div]
      have l1 : lkU F n v b p (2 ^ n) / Nat.gcd (lkU F n v b p (2 ^ n)) (10 ^ n) < 2 ^ 31 := Nat.lt_of_le_of_lt (Nat.div_le_self _ _) (by omega)
      have l2 : 10 ^ n / Nat.gcd (lkU F n v b p (2 ^ n)) (10 ^ n) < 2 ^ 31 := Nat.lt_of_le_of_lt (Nat.div_le_self _ _) (by omega)
      rw [nI_l l1, nI_l l2]
      exact ok_call (c_tellB (kc_fr b5)) (fun M2 q => ok_some ⟨rfl, q.1, q.2.1⟩)
  have e6 := g2.2.1.1
  have hFU : 2000 < FU := FU_big
  generalize FU = fu0 at hFU ⊢
  refine ok_loop n (fun fu k (s : Int32) => fX9_likely_42 fu (nI b) (nI p) 0 s (nI k) M1) (fun k (s : Int32) => s = nI (10 ^ k)) ?_ ?_ fu0 0 1 (by omega) (by omega) rfl
  · intro fu k s hk hs ih
    rw [e_X9_likely_42]
    simp (disch := omega) only [↓reduceIte, ic_t, ic_f, not_true_eq_false, not_false_eq_true, ↓lt_v, rdR, rdE, rdS, leT, leTc, leTd, leF, leFc, leFd, ltT, ltTc, ltTd, ltF, ltFc, ltFd, eqT, eqTc, eqTd, eqF, eqFc, eqFd, m1T, m1F, m1T', m1F', inb_nI, ix_nI, inb_c, ix_c, nI_1, nI_pred, nI_m1, add_nIc, add_cnI, bd_v, reduceCtorEq, eqFcc, m1e0, m1e1, m1l0, m1g0, m2l0, m2g0, Int32.reduceLT, Int32.reduceLE, Int32.reduceAdd, Int32.reduceSub, Int32.reduceMul, eq_self, Bool.false_eq_true, e6, hs]
    refine ih _ ?_
    rw [show (10 : Int32) = nI 10 from rfl, pk_mul, Nat.pow_succ]
  · intro fu s hs
    rw [e_X9_likely_42]
    simp (disch := omega) only [↓reduceIte, ic_t, ic_f, not_true_eq_false, not_false_eq_true, ↓lt_v, rdR, rdE, rdS, leT, leTc, leTd, leF, leFc, leFd, ltT, ltTc, ltTd, ltF, ltFc, ltFd, eqT, eqTc, eqTd, eqF, eqFc, eqFd, m1T, m1F, m1T', m1F', inb_nI, ix_nI, inb_c, ix_c, nI_1, nI_pred, nI_m1, add_nIc, add_cnI, bd_v, reduceCtorEq, eqFcc, m1e0, m1e1, m1l0, m1g0, m2l0, m2g0, Int32.reduceLT, Int32.reduceLE, Int32.reduceAdd, Int32.reduceSub, Int32.reduceMul, eq_self, Bool.false_eq_true, e6, hs]
    exact tail
theorem r_likely {M : Mem} {n b p : Nat} {v : VV} {F : (Nat → Int32) → Int32} (hc : RR n v F M) (hb : b < n) (hp : p ≤ 10) : Ok (fX10_likely (nI b) (nI p) M) (QR 0 (some (lkL F n v b p)) M) := by
  have hn : n ≤ 6 := hc.1.1
  obtain ⟨hc0, hf0⟩ := r_thrown0 hc
  have hh := r_isBoat_in hc0.2.1 hn hb
  have h10 := p10 hn
  obtain ⟨shl, h64⟩ := bt_shl n (by omega)
  have hU := lkU_le (F := F) (b := b) (v := v) hn hp
  have hi : ∀ M : Mem, fX10_in (nI p).toInt64 0 10 M = some (1, M) := fun M => by rw [r_inI (lo := 0) (hi := 10) (by decide) (by decide), nI_toInt (by omega), if_pos (by omega)]
  have hfl : ∀ (z : Bool) (N : Mem), fX10_flag (bI z) N = some (bI z, N) := fun z N => by
    rw [e_X10_flag]
    cases z <;> rfl
  rw [e_X10_likely]
  simp (disch := omega) only [↓reduceIte, ic_t, ic_f, not_true_eq_false, not_false_eq_true, ↓lt_v, rdR, rdE, rdS, leT, leTc, leTd, leF, leFc, leFd, ltT, ltTc, ltTd, ltF, ltFc, ltFd, eqT, eqTc, eqTd, eqF, eqFc, eqFd, m1T, m1F, m1T', m1F', inb_nI, ix_nI, inb_c, ix_c, nI_1, nI_pred, nI_m1, add_nIc, add_cnI, bd_v, reduceCtorEq, eqFcc, m1e0, m1e1, m1l0, m1g0, m2l0, m2g0, Int32.reduceLT, Int32.reduceLE, Int32.reduceAdd, Int32.reduceSub, Int32.reduceMul, eq_self, Bool.false_eq_true, hh, hi]
  have tail : Ok (fX10_likely_61 FU (nI b) (nI p) 0 (lN (10 ^ n)) 0 (sI M 169 0 0)) (QR 0 (some (lkL F n v b p)) M) := by
    have hFU : 2000 < FU := FU_big
    generalize FU = fu0 at hFU ⊢
    refine ok_loop (2 ^ n) (fun fu k (s : Int64 × Mem) => fX10_likely_61 fu (nI b) (nI p) s.1 (lN (10 ^ n)) (nI k) s.2) (fun k s => s.1 = lN (lkU F n v b p k) ∧ FrR SR SS1 M s.2) ?_ ?_ fu0 0 (0, sI M 169 0 0) (Nat.zero_le _) (by omega) ⟨rfl, hf0⟩
    · intro fu k s hk hs ih
      obtain ⟨b1, b2⟩ := hs
      have hcs : RR n v F s.2 := rr_kr hc (kr_1 b2)
      have e3 := hcs.2.1
      have hst : lkU F n v b p (k + 1) = lkU F n v b p k + (if fq (lkT F n v k).2.2.2.1 (lkT F n v k).2.1 (nI b) = 0 then 0 else wt p k n) := rfl
      have hwl := Nat.le_trans (wt_le (s := k) hp n) h10
      have hUk := hU k
      rw [e_X10_likely_61]
      simp (disch := omega) only [↓reduceIte, ic_t, ic_f, not_true_eq_false, not_false_eq_true, ↓lt_v, rdR, rdE, rdS, leT, leTc, leTd, leF, leFc, leFd, ltT, ltTc, ltTd, ltF, ltFc, ltFd, eqT, eqTc, eqTd, eqF, eqFc, eqFd, m1T, m1F, m1T', m1F', inb_nI, ix_nI, inb_c, ix_c, nI_1, nI_pred, nI_m1, add_nIc, add_cnI, bd_v, reduceCtorEq, eqFcc, m1e0, m1e1, m1l0, m1g0, m2l0, m2g0, Int32.reduceLT, Int32.reduceLE, Int32.reduceAdd, Int32.reduceSub, Int32.reduceMul, eq_self, Bool.false_eq_true, e3, shl]
      refine r_then hcs (fun M1 g1 g2 g3 => ?_)
      generalize hg : fX10_likely_61 fu = gg at ih ⊢
      have hFU2 : 2000 < FU := FU_big
      generalize FU = fu1 at hFU2 ⊢
      refine ok_loop n (fun fu j (z : Int64 × Mem) => fX10_likely_82 gg fu (nI b) (nI p) s.1 (lN (10 ^ n)) (nI k) z.1 (nI j) z.2) (fun j z => z.1 = lN (wt p k j) ∧ (∀ i, i < 22 → z.2.1 172 i = if i < j then v.1 i + bI (k.testBit i) else v.1 i) ∧ z.2.1 169 3 = nI n ∧ RuR F z.2 ∧ FrR SR SS1 M z.2) ?_ ?_ fu1 0 (1, M1) (by omega) (by omega) ⟨rfl, fun i hi => by rw [if_neg (by omega)]; exact g1 i hi, g2.2.1, g2.2.2.2, frR_trans b2 g3⟩
      · intro fu j z hj hz ih'
        obtain ⟨z1, z2, z3, z4, z5⟩ := hz
        have hhas : ∀ N : Mem, fX10_has (nI k) (nI j) N = some (bI (k.testBit j), N) := fun N => r_has (by omega) (by omega)
        have ej : z.2.1 172 j = v.1 j := by rw [z2 j (by omega), if_neg (by omega)]
        have hwj := Nat.le_trans (wt_le (p := p) (s := k) hp j) (p10 (k := j) (by omega))
        have h10p : ((10 : Int32) - nI p).toInt64 = lN (10 - p) := by rw [show (10 : Int32) = nI 10 from rfl, pk_sub hp, nI_l (by omega)]
        have hpl : (nI p).toInt64 = lN p := nI_l (by omega)
        have hst : wt p k (j + 1) = wt p k j * (if k.testBit j = true then p else 10 - p) := rfl
        have next : ∀ y, y = lN (wt p k (j + 1)) → Ok (fX10_likely_82 gg fu (nI b) (nI p) s.1 (lN (10 ^ n)) (nI k) y (nI (j + 1)) (sI z.2 172 j (v.1 j + bI (k.testBit j)))) (QR 0 (some (lkL F n v b p)) M) := by
          intro y hy
          refine ih' (y, sI z.2 172 j (v.1 j + bI (k.testBit j))) ⟨hy, fun i hi => ?_, by simp (disch := omega) only [↓reduceIte, ic_t, ic_f, not_true_eq_false, not_false_eq_true, ↓lt_v, rdR, rdE, rdS, leT, leTc, leTd, leF, leFc, leFd, ltT, ltTc, ltTd, ltF, ltFc, ltFd, eqT, eqTc, eqTd, eqF, eqFc, eqFd, m1T, m1F, m1T', m1F', inb_nI, ix_nI, inb_c, ix_c, nI_1, nI_pred, nI_m1, add_nIc, add_cnI, bd_v, reduceCtorEq, eqFcc, m1e0, m1e1, m1l0, m1g0, m2l0, m2g0, Int32.reduceLT, Int32.reduceLE, Int32.reduceAdd, Int32.reduceSub, Int32.reduceMul, eq_self, Bool.false_eq_true, z3], ruR_fr z4 (row_n (by omega)) (by simp (disch := omega) only [↓reduceIte, ic_t, ic_f, not_true_eq_false, not_false_eq_true, ↓lt_v, rdR, rdE, rdS, leT, leTc, leTd, leF, leFc, leFd, ltT, ltTc, ltTd, ltF, ltFc, ltFd, eqT, eqTc, eqTd, eqF, eqFc, eqFd, m1T, m1F, m1T', m1F', inb_nI, ix_nI, inb_c, ix_c, nI_1, nI_pred, nI_m1, add_nIc, add_cnI, bd_v, reduceCtorEq, eqFcc, m1e0, m1e1, m1l0, m1g0, m2l0, m2g0, Int32.reduceLT, Int32.reduceLE, Int32.reduceAdd, Int32.reduceSub, Int32.reduceMul, eq_self, Bool.false_eq_true]), frR_trans z5 (frR_sI (by unfold SR; omega) (by omega))⟩
          by_cases ei : i = j
          · subst ei
            simp (disch := omega) only [↓reduceIte, ic_t, ic_f, not_true_eq_false, not_false_eq_true, ↓lt_v, rdR, rdE, rdS, leT, leTc, leTd, leF, leFc, leFd, ltT, ltTc, ltTd, ltF, ltFc, ltFd, eqT, eqTc, eqTd, eqF, eqFc, eqFd, m1T, m1F, m1T', m1F', inb_nI, ix_nI, inb_c, ix_c, nI_1, nI_pred, nI_m1, add_nIc, add_cnI, bd_v, reduceCtorEq, eqFcc, m1e0, m1e1, m1l0, m1g0, m2l0, m2g0, Int32.reduceLT, Int32.reduceLE, Int32.reduceAdd, Int32.reduceSub, Int32.reduceMul, eq_self, Bool.false_eq_true]
            rw [if_pos (show i < i + 1 by omega)]
          · simp (disch := omega) only [↓reduceIte, ic_t, ic_f, not_true_eq_false, not_false_eq_true, ↓lt_v, rdR, rdE, rdS, leT, leTc, leTd, leF, leFc, leFd, ltT, ltTc, ltTd, ltF, ltFc, ltFd, eqT, eqTc, eqTd, eqF, eqFc, eqFd, m1T, m1F, m1T', m1F', inb_nI, ix_nI, inb_c, ix_c, nI_1, nI_pred, nI_m1, add_nIc, add_cnI, bd_v, reduceCtorEq, eqFcc, m1e0, m1e1, m1l0, m1g0, m2l0, m2g0, Int32.reduceLT, Int32.reduceLE, Int32.reduceAdd, Int32.reduceSub, Int32.reduceMul, eq_self, Bool.false_eq_true]
            rw [z2 i hi]
            by_cases c : i < j
            · rw [if_pos c, if_pos (show i < j + 1 by omega)]
            · rw [if_neg c, if_neg (show ¬ i < j + 1 by omega)]
        rw [e_X10_likely_82]
        simp (disch := omega) only [↓reduceIte, ic_t, ic_f, not_true_eq_false, not_false_eq_true, ↓lt_v, rdR, rdE, rdS, leT, leTc, leTd, leF, leFc, leFd, ltT, ltTc, ltTd, ltF, ltFc, ltFd, eqT, eqTc, eqTd, eqF, eqFc, eqFd, m1T, m1F, m1T', m1F', inb_nI, ix_nI, inb_c, ix_c, nI_1, nI_pred, nI_m1, add_nIc, add_cnI, bd_v, reduceCtorEq, eqFcc, m1e0, m1e1, m1l0, m1g0, m2l0, m2g0, Int32.reduceLT, Int32.reduceLE, Int32.reduceAdd, Int32.reduceSub, Int32.reduceMul, eq_self, Bool.false_eq_true, z3, hhas, hfl, ej, bI_0, z1]
        cases ht : k.testBit j
        · simp (disch := omega) only [↓reduceIte, ic_t, ic_f, not_true_eq_false, not_false_eq_true, ↓lt_v, rdR, rdE, rdS, leT, leTc, leTd, leF, leFc, leFd, ltT, ltTc, ltTd, ltF, ltFc, ltFd, eqT, eqTc, eqTd, eqF, eqFc, eqFd, m1T, m1F, m1T', m1F', inb_nI, ix_nI, inb_c, ix_c, nI_1, nI_pred, nI_m1, add_nIc, add_cnI, bd_v, reduceCtorEq, eqFcc, m1e0, m1e1, m1l0, m1g0, m2l0, m2g0, Int32.reduceLT, Int32.reduceLE, Int32.reduceAdd, Int32.reduceSub, Int32.reduceMul, eq_self, Bool.false_eq_true]
          rw [h10p, lN_mul]
          rw [ht] at hst next
          exact next _ (by rw [hst]; rfl)
        · simp (disch := omega) only [↓reduceIte, ic_t, ic_f, not_true_eq_false, not_false_eq_true, ↓lt_v, rdR, rdE, rdS, leT, leTc, leTd, leF, leFc, leFd, ltT, ltTc, ltTd, ltF, ltFc, ltFd, eqT, eqTc, eqTd, eqF, eqFc, eqFd, m1T, m1F, m1T', m1F', inb_nI, ix_nI, inb_c, ix_c, nI_1, nI_pred, nI_m1, add_nIc, add_cnI, bd_v, reduceCtorEq, eqFcc, m1e0, m1e1, m1l0, m1g0, m2l0, m2g0, Int32.reduceLT, Int32.reduceLE, Int32.reduceAdd, Int32.reduceSub, Int32.reduceMul, eq_self, Bool.false_eq_true]
          rw [hpl, lN_mul]
          rw [ht] at hst next
          exact next _ (by rw [hst]; rfl)
      · intro fu z hz
        obtain ⟨z1, z2, z3, z4, z5⟩ := hz
        have hw1 : WfV n (lkV n k v) := wf_lkV hc.1
        obtain ⟨st, hs, s1, s2⟩ := hw1.2.2.2.2
        have e19 : z.2.1 172 19 = nI st := (z2 19 (by omega)).trans hs
        have eT : (rs F (lkV n k v).1 (lkV n k v).2 n st).2 = lkT F n v k := by
          show _ = (rs F (lkV n k v).1 (lkV n k v).2 n (ix ((lkV n k v).1 19))).2
          rw [hs, ix_nI (by omega)]
        rw [e_X10_likely_82]
        simp (disch := omega) only [↓reduceIte, ic_t, ic_f, not_true_eq_false, not_false_eq_true, ↓lt_v, rdR, rdE, rdS, leT, leTc, leTd, leF, leFc, leFd, ltT, ltTc, ltTd, ltF, ltFc, ltFd, eqT, eqTc, eqTd, eqF, eqFc, eqFd, m1T, m1F, m1T', m1F', inb_nI, ix_nI, inb_c, ix_c, nI_1, nI_pred, nI_m1, add_nIc, add_cnI, bd_v, reduceCtorEq, eqFcc, m1e0, m1e1, m1l0, m1g0, m2l0, m2g0, Int32.reduceLT, Int32.reduceLE, Int32.reduceAdd, Int32.reduceSub, Int32.reduceMul, eq_self, Bool.false_eq_true, z3, e19]
        refine ok_call (r_races (F := F) (w := (lkV n k v).1) (o := (lkV n k v).2) (n := n) (a := 172) (st := st) hw1 ln172 (by omega) z3 z2 z4 s2) (fun M2 g => ?_)
        obtain ⟨hL, hf⟩ := g
        rw [eT] at hL
        have hm : (lkT F n v k).2.1 ≤ 3 := m_TT hw1
        have hto := r_touchOf (x := nI b) hm hL
        have hfql := fq_le (lkT F n v k).2.2.2.1 (lkT F n v k).2.1 (nI b)
        have fr2 : FrR SR SS1 M M2 := frR_trans z5 (frR_SRu hf)
        simp (disch := omega) only [↓reduceIte, ic_t, ic_f, not_true_eq_false, not_false_eq_true, ↓lt_v, rdR, rdE, rdS, leT, leTc, leTd, leF, leFc, leFd, ltT, ltTc, ltTd, ltF, ltFc, ltFd, eqT, eqTc, eqTd, eqF, eqFc, eqFd, m1T, m1F, m1T', m1F', inb_nI, ix_nI, inb_c, ix_c, nI_1, nI_pred, nI_m1, add_nIc, add_cnI, bd_v, reduceCtorEq, eqFcc, m1e0, m1e1, m1l0, m1g0, m2l0, m2g0, Int32.reduceLT, Int32.reduceLE, Int32.reduceAdd, Int32.reduceSub, Int32.reduceMul, eq_self, Bool.false_eq_true, hto]
        by_cases h1 : fq (lkT F n v k).2.2.2.1 (lkT F n v k).2.1 (nI b) = 0
        · simp (disch := omega) only [↓reduceIte, ic_t, ic_f, not_true_eq_false, not_false_eq_true, ↓lt_v, rdR, rdE, rdS, leT, leTc, leTd, leF, leFc, leFd, ltT, ltTc, ltTd, ltF, ltFc, ltFd, eqT, eqTc, eqTd, eqF, eqFc, eqFd, m1T, m1F, m1T', m1F', inb_nI, ix_nI, inb_c, ix_c, nI_1, nI_pred, nI_m1, add_nIc, add_cnI, bd_v, reduceCtorEq, eqFcc, m1e0, m1e1, m1l0, m1g0, m2l0, m2g0, Int32.reduceLT, Int32.reduceLE, Int32.reduceAdd, Int32.reduceSub, Int32.reduceMul, eq_self, Bool.false_eq_true, h1]
          refine ih (_, M2) ⟨?_, fr2⟩
          rw [hst, if_pos h1, b1]
          simp [Int64.add_zero]
        · simp (disch := omega) only [↓reduceIte, ic_t, ic_f, not_true_eq_false, not_false_eq_true, ↓lt_v, rdR, rdE, rdS, leT, leTc, leTd, leF, leFc, leFd, ltT, ltTc, ltTd, ltF, ltFc, ltFd, eqT, eqTc, eqTd, eqF, eqFc, eqFd, m1T, m1F, m1T', m1F', inb_nI, ix_nI, inb_c, ix_c, nI_1, nI_pred, nI_m1, add_nIc, add_cnI, bd_v, reduceCtorEq, eqFcc, m1e0, m1e1, m1l0, m1g0, m2l0, m2g0, Int32.reduceLT, Int32.reduceLE, Int32.reduceAdd, Int32.reduceSub, Int32.reduceMul, eq_self, Bool.false_eq_true, z1]
          refine ih (_, M2) ⟨?_, fr2⟩
          rw [hst, if_neg h1, b1, lN_add]
    · intro fu s hs
      obtain ⟨b1, b2⟩ := hs
      have e3 := (rr_kr hc (kr_1 b2)).2.1
      have hUk := hU (2 ^ n)
      have hp0 : 0 < 10 ^ n := Nat.pow_pos (by decide)
      have hgp : 0 < Nat.gcd (lkU F n v b p (2 ^ n)) (10 ^ n) := Nat.gcd_pos_of_pos_right _ hp0
      have hgl := Nat.gcd_le_right (lkU F n v b p (2 ^ n)) hp0
      have hg : fX10_common 64 (lN (lkU F n v b p (2 ^ n))) (lN (10 ^ n)) s.2 = some (lN (Nat.gcd (lkU F n v b p (2 ^ n)) (10 ^ n)), s.2) := r_gcd (2 * 20) 64 _ _ (eu_pow 20 _ _ (by omega)) (by omega) (by omega) (by omega)
      have hz : ¬ lN (Nat.gcd (lkU F n v b p (2 ^ n)) (10 ^ n)) = 0 := fun q => by
        have := (lN_eq (b := 0) (by omega) (by omega)).mp q
        omega
      rw [e_X10_likely_61]
      simp (disch := omega) only [↓reduceIte, ic_t, ic_f, not_true_eq_false, not_false_eq_true, ↓lt_v, rdR, rdE, rdS, leT, leTc, leTd, leF, leFc, leFd, ltT, ltTc, ltTd, ltF, ltFc, ltFd, eqT, eqTc, eqTd, eqF, eqFc, eqFd, m1T, m1F, m1T', m1F', inb_nI, ix_nI, inb_c, ix_c, nI_1, nI_pred, nI_m1, add_nIc, add_cnI, bd_v, reduceCtorEq, eqFcc, m1e0, m1e1, m1l0, m1g0, m2l0, m2g0, Int32.reduceLT, Int32.reduceLE, Int32.reduceAdd, Int32.reduceSub, Int32.reduceMul, eq_self, Bool.false_eq_true, e3, shl, b1, hg, eq_false hz]
      rw [lN_div (by omega) hgp (by omega), lN_div (by omega) hgp (by omega)]
      refine r_tell1 (kr_1 b2) (fun M2 k1 k2 k3 k4 => ?_)
      exact ok_call (r_enters (by simp) k1 k2) (fun M3 j => ok_some ⟨rfl, j.1, j.2.1⟩)
  have e3 := hc0.2.1
  have hFU : 2000 < FU := FU_big
  generalize FU = fu0 at hFU ⊢
  refine ok_loop n (fun fu k (s : Int64) => fX10_likely_35 fu (nI b) (nI p) 0 s (nI k) (sI M 169 0 0)) (fun k (s : Int64) => s = lN (10 ^ k)) ?_ ?_ fu0 0 1 (by omega) (by omega) rfl
  · intro fu k s hk hs ih
    rw [e_X10_likely_35, e3]
    simp (disch := omega) only [↓reduceIte, ic_t, ic_f, not_true_eq_false, not_false_eq_true, ↓lt_v, rdR, rdE, rdS, leT, leTc, leTd, leF, leFc, leFd, ltT, ltTc, ltTd, ltF, ltFc, ltFd, eqT, eqTc, eqTd, eqF, eqFc, eqFd, m1T, m1F, m1T', m1F', inb_nI, ix_nI, inb_c, ix_c, nI_1, nI_pred, nI_m1, add_nIc, add_cnI, bd_v, reduceCtorEq, eqFcc, m1e0, m1e1, m1l0, m1g0, m2l0, m2g0, Int32.reduceLT, Int32.reduceLE, Int32.reduceAdd, Int32.reduceSub, Int32.reduceMul, eq_self, Bool.false_eq_true, hs]
    refine ih _ ?_
    rw [show (10 : Int64) = lN 10 from rfl, lN_mul, Nat.pow_succ]
  · intro fu s hs
    rw [e_X10_likely_35, e3]
    simp (disch := omega) only [↓reduceIte, ic_t, ic_f, not_true_eq_false, not_false_eq_true, ↓lt_v, rdR, rdE, rdS, leT, leTc, leTd, leF, leFc, leFd, ltT, ltTc, ltTd, ltF, ltFc, ltFd, eqT, eqTc, eqTd, eqF, eqFc, eqFd, m1T, m1F, m1T', m1F', inb_nI, ix_nI, inb_c, ix_c, nI_1, nI_pred, nI_m1, add_nIc, add_cnI, bd_v, reduceCtorEq, eqFcc, m1e0, m1e1, m1l0, m1g0, m2l0, m2g0, Int32.reduceLT, Int32.reduceLE, Int32.reduceAdd, Int32.reduceSub, Int32.reduceMul, eq_self, Bool.false_eq_true, hs]
    exact tail
