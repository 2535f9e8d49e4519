/-! PURE: reference: laysOrder, laysSoon -/
def cmp6 (f : Nat) : Nat := 63 ^^^ f
/-- one walk of the reference: from b on, the skip-th that has not been -/
def nbr (x : Nat) : Nat → Nat → Nat → Option Nat
  | 0, _, _ => none
  | d + 1, b, sk => if x.testBit b = true then nbr x d (b + 1) sk else if sk = 0 then some b else nbr x d (b + 1) (sk - 1)
def chk5 (n : Nat) : Bool := allB (fac n) (fun j => allB n (fun k => nbr ((2 ^ n - 1) ^^^ (uR n j k).2) 6 0 ((uR n j k).1 / fac (n - 1 - k)) == some (un n j k) && decide (((2 ^ n - 1) ^^^ (uR n j k).2) < 64) && (((2 ^ n - 1) ^^^ (uR n j k).2) ||| (1 <<< un n j k) == (2 ^ n - 1) ^^^ (uR n j (k + 1)).2)))
theorem chk5_ok : allB 7 chk5 = true := by decide +kernel
theorem chk5_n {n j k : Nat} (hn : n ≤ 6) (hj : j < fac n) (hk : k < n) : nbr ((2 ^ n - 1) ^^^ (uR n j k).2) 6 0 ((uR n j k).1 / fac (n - 1 - k)) = some (un n j k) ∧ ((2 ^ n - 1) ^^^ (uR n j k).2) < 64 ∧ ((2 ^ n - 1) ^^^ (uR n j k).2) ||| (1 <<< un n j k) = (2 ^ n - 1) ^^^ (uR n j (k + 1)).2 := by
  have h := allB_i _ (allB_i _ (allB_i 7 chk5_ok n (by omega)) j hj) k hk
  rw [Bool.and_eq_true, Bool.and_eq_true] at h
  exact ⟨eq_of_beq h.1.1, of_decide_eq_true h.1.2, eq_of_beq h.2⟩
theorem r_walk {s : Mem} {a x b' : Nat} {x3 x5 : Int32} {k8 : Nat → Int32 → Int32 → Int32 → Mem → Option Mem} (hx : x < 64) : ∀ d b sk fu, b + d = 6 → sk < 100 → d + 1 ≤ fu → nbr x d b sk = some b' → fX10_laysOrder_51 k8 fu a x3 (nI x) x5 (nI sk) (nI b) s = ic (inb x5 (ln a)) (lt (sI s a (ix x5) (nI b')) fun M17 => lt (nI x ||| (1 <<< (nI b' &&& 31))) fun y19 => lt (x5 + 1) fun y21 => k8 a x3 y19 y21 M17) (none) := by
  have f0 : ∀ N : Mem, fX10_flag 0 N = some (0, N) := fun N => r_flagI (Or.inl rfl)
  have f1 : ∀ N : Mem, fX10_flag 1 N = some (1, N) := fun N => r_flagI (Or.inr rfl)
  have b0 : bI false = 0 := rfl
  have b1 : bI true = 1 := rfl
  intro d
  induction d with
  | zero => intro b sk fu _ _ _ h; cases h
  | succ d ih =>
    intro b sk fu hb hsk hfu h
    obtain ⟨fu, rfl⟩ : ∃ m, fu = m + 1 := ⟨fu - 1, by omega⟩
    unfold nbr at h
    have hh := r_has (M := s) hx (show b < 6 by omega)
    rw [e_X10_laysOrder_51, hh]
    by_cases c : x.testBit b = true
    · rw [if_pos c] at h
      have ih := ih (b + 1) sk fu (by omega) hsk (by omega) h
      rw [c, b1] at hh
      rw [c]
      simp (disch := omega) only [↓reduceIte, ic_t, ic_f, not_true_eq_false, not_false_eq_true, ↓lt_v, leT, leTc, leTd, leF, leFc, leFd, ltT, ltTc, ltTd, ltF, ltFc, ltFd, eqT, eqTc, eqTd, eqF, eqFc, eqFd, m1T, m1F, m1T', m1F', inb_nI, ix_nI, inb_c, ix_c, nI_1, nI_pred, nI_m1, add_nIc, add_cnI, bd_v, reduceCtorEq, eqFcc, m1e0, m1e1, m1l0, m1g0, m2l0, m2g0, Int32.reduceLT, Int32.reduceLE, Int32.reduceAdd, Int32.reduceSub, Int32.reduceMul, eq_self, Bool.false_eq_true, b1, e_X10_laysOrder_66, e_X10_laysOrder_83, hh, f0]
      rw [show nI sk - 0 = nI sk by rw [Int32.sub_zero]]
      exact ih
    · have c' : x.testBit b = false := by cases q : x.testBit b; rfl; exact absurd q c
      rw [if_neg c] at h
      rw [c', b0] at hh
      rw [c']
      by_cases c2 : sk = 0
      · rw [if_pos c2] at h
        injection h with h
        subst h
        simp (disch := omega) only [↓reduceIte, ic_t, ic_f, not_true_eq_false, not_false_eq_true, ↓lt_v, leT, leTc, leTd, leF, leFc, leFd, ltT, ltTc, ltTd, ltF, ltFc, ltFd, eqT, eqTc, eqTd, eqF, eqFc, eqFd, m1T, m1F, m1T', m1F', inb_nI, ix_nI, inb_c, ix_c, nI_1, nI_pred, nI_m1, add_nIc, add_cnI, bd_v, reduceCtorEq, eqFcc, m1e0, m1e1, m1l0, m1g0, m2l0, m2g0, Int32.reduceLT, Int32.reduceLE, Int32.reduceAdd, Int32.reduceSub, Int32.reduceMul, eq_self, Bool.false_eq_true, b0]
      · rw [if_neg c2] at h
        have ih := ih (b + 1) (sk - 1) fu (by omega) (by omega) (by omega) h
        have em : nI sk - 1 = nI (sk - 1) := by rw [sub_nIc (by omega)]
        simp (disch := omega) only [↓reduceIte, ic_t, ic_f, not_true_eq_false, not_false_eq_true, ↓lt_v, leT, leTc, leTd, leF, leFc, leFd, ltT, ltTc, ltTd, ltF, ltFc, ltFd, eqT, eqTc, eqTd, eqF, eqFc, eqFd, m1T, m1F, m1T', m1F', inb_nI, ix_nI, inb_c, ix_c, nI_1, nI_pred, nI_m1, add_nIc, add_cnI, bd_v, reduceCtorEq, eqFcc, m1e0, m1e1, m1l0, m1g0, m2l0, m2g0, Int32.reduceLT, Int32.reduceLE, Int32.reduceAdd, Int32.reduceSub, Int32.reduceMul, eq_self, Bool.false_eq_true, b0, e_X10_laysOrder_66, e_X10_laysOrder_83, hh, f1, em]
        exact ih
theorem r_laysOrder {s : Mem} {n a j : Nat} (hn : n ≤ 6) (hj : j < fac n) (hl : ln a = 6) (ha : a ≠ 169) (h0 : s.1 169 3 = nI n) : Ok (fX10_laysOrder a (nI j) s) (fun s' => (∀ k, k < n → s'.1 a k = nI (un n j k)) ∧ FrR (fun b => b = a) (fun _ => False) s s') := by
  obtain ⟨_, _, c3⟩ := chk1_n hn hj
  have hfl := fac_le hn
  rw [e_X10_laysOrder]
  have e00 : (2 ^ n - 1) ^^^ (uR n j 0).2 = 0 := Nat.xor_self _
  have hFU : 2000 < FU := FU_big
  generalize FU = fu0 at hFU ⊢
  rw [show fX10_laysOrder_8 fu0 a (nI j) 0 0 s = fX10_laysOrder_8 fu0 a (nI (uR n j 0).1) (nI ((2 ^ n - 1) ^^^ (uR n j 0).2)) (nI 0) s by rw [e00]; rfl]
  refine ok_loop n (fun fu k x => fX10_laysOrder_8 fu a (nI (uR n j k).1) (nI ((2 ^ n - 1) ^^^ (uR n j k).2)) (nI k) x) (fun k x => (∀ i, i < k → x.1 a i = nI (un n j i)) ∧ FrR (fun b => b = a) (fun _ => False) s x) ?_ ?_ fu0 0 s (by omega) (by omega) ⟨fun i hi => absurd hi (Nat.not_lt_zero _), frR_rfl⟩
  · intro fu k x hk hx ih
    obtain ⟨w1, w2⟩ := hx
    have t0 : x.1 169 3 = nI n := by rw [w2.2.1 3 (fun q => q)]; exact h0
    have em : nI n - 1 - nI k = nI (n - 1 - k) := by rw [sub_nIc (by omega), pk_sub (by omega)]
    have hm := r_many (s := x) (n - 1 - k) 11 (by omega) (by omega)
    have hp := fac_pos (n - 1 - k)
    have hq : fac (n - 1 - k) ≤ 720 := fac_le (by omega)
    have hq2 : fac (n - k) ≤ 720 := fac_le (by omega)
    have r1 := uR_1 hj k (by omega)
    have c3k := c3 k hk
    obtain ⟨d1, d2, d3⟩ := chk5_n hn hj hk
    have q2 : ¬ nI (fac (n - 1 - k)) = 0 := by rw [show (0 : Int32) = nI 0 from rfl, nI_eq (by omega) (by omega)]; omega
    have ed : nI (uR n j k).1 / nI (fac (n - 1 - k)) = nI ((uR n j k).1 / fac (n - 1 - k)) := pk_div (by omega) (by omega) (by omega)
    have esk : nI (uR n j k).1 - nI ((uR n j k).1 / fac (n - 1 - k)) * nI (fac (n - 1 - k)) = nI (uR n j (k + 1)).1 := by
      have hm := Nat.div_add_mod (uR n j k).1 (fac (n - 1 - k))
      rw [Nat.mul_comm] at hm
      rw [pk_mul, pk_sub (by omega)]
      show _ = nI ((uR n j k).1 % fac (n - 1 - k))
      congr 1
      omega
    have hun := (chk1_n hn hj).1.1 k hk
    have ebit : nI ((2 ^ n - 1) ^^^ (uR n j k).2) ||| (1 <<< (nI (un n j k) &&& 31)) = nI ((2 ^ n - 1) ^^^ (uR n j (k + 1)).2) := by
      rw [(bt_or _ d2 (un n j k) (by omega)).1.1, d3]
    rw [e_X10_laysOrder_8]
    simp (disch := omega) only [↓reduceIte, ic_t, ic_f, not_true_eq_false, not_false_eq_true, ↓lt_v, rdR, rdE, rdS, leT, leTc, leTd, leF, leFc, leFd, ltT, ltTc, ltTd, ltF, ltFc, ltFd, eqT, eqTc, eqTd, eqF, eqFc, eqFd, m1T, m1F, m1T', m1F', inb_nI, ix_nI, inb_c, ix_c, nI_1, nI_pred, nI_m1, add_nIc, add_cnI, bd_v, reduceCtorEq, eqFcc, m1e0, m1e1, m1l0, m1g0, m2l0, m2g0, Int32.reduceLT, Int32.reduceLE, Int32.reduceAdd, Int32.reduceSub, Int32.reduceMul, eq_self, Bool.false_eq_true, t0, em, hm, q2, ed, esk]
    rw [show (0 : Int32) = nI 0 from rfl, r_walk d2 6 0 _ FU (by omega) (by omega) (by have := FU_big; omega) d1, hl]
    simp (disch := omega) only [↓reduceIte, ic_t, ic_f, not_true_eq_false, not_false_eq_true, ↓lt_v, rdR, rdE, rdS, leT, leTc, leTd, leF, leFc, leFd, ltT, ltTc, ltTd, ltF, ltFc, ltFd, eqT, eqTc, eqTd, eqF, eqFc, eqFd, m1T, m1F, m1T', m1F', inb_nI, ix_nI, inb_c, ix_c, nI_1, nI_pred, nI_m1, add_nIc, add_cnI, bd_v, reduceCtorEq, eqFcc, m1e0, m1e1, m1l0, m1g0, m2l0, m2g0, Int32.reduceLT, Int32.reduceLE, Int32.reduceAdd, Int32.reduceSub, Int32.reduceMul, eq_self, Bool.false_eq_true, ebit]
    refine ih _ ⟨fun i hi => ?_, frR_trans w2 (frR_sI (fun _ => rfl) (fun q => absurd q ha))⟩
    by_cases e : i = k
    · subst e; simp (disch := omega) only [↓reduceIte, ic_t, ic_f, not_true_eq_false, not_false_eq_true, ↓lt_v, rdR, rdE, rdS, leT, leTc, leTd, leF, leFc, leFd, ltT, ltTc, ltTd, ltF, ltFc, ltFd, eqT, eqTc, eqTd, eqF, eqFc, eqFd, m1T, m1F, m1T', m1F', inb_nI, ix_nI, inb_c, ix_c, nI_1, nI_pred, nI_m1, add_nIc, add_cnI, bd_v, reduceCtorEq, eqFcc, m1e0, m1e1, m1l0, m1g0, m2l0, m2g0, Int32.reduceLT, Int32.reduceLE, Int32.reduceAdd, Int32.reduceSub, Int32.reduceMul, eq_self, Bool.false_eq_true]
    · simp (disch := omega) only [↓reduceIte, ic_t, ic_f, not_true_eq_false, not_false_eq_true, ↓lt_v, rdR, rdE, rdS, leT, leTc, leTd, leF, leFc, leFd, ltT, ltTc, ltTd, ltF, ltFc, ltFd, eqT, eqTc, eqTd, eqF, eqFc, eqFd, m1T, m1F, m1T', m1F', inb_nI, ix_nI, inb_c, ix_c, nI_1, nI_pred, nI_m1, add_nIc, add_cnI, bd_v, reduceCtorEq, eqFcc, m1e0, m1e1, m1l0, m1g0, m2l0, m2g0, Int32.reduceLT, Int32.reduceLE, Int32.reduceAdd, Int32.reduceSub, Int32.reduceMul, eq_self, Bool.false_eq_true]; exact w1 i (by omega)
  · intro fu x hx
    have t0 : x.1 169 3 = nI n := by rw [hx.2.2.1 3 (fun q => q)]; exact h0
    rw [e_X10_laysOrder_8]
    simp (disch := omega) only [↓reduceIte, ic_t, ic_f, not_true_eq_false, not_false_eq_true, ↓lt_v, rdR, rdE, rdS, leT, leTc, leTd, leF, leFc, leFd, ltT, ltTc, ltTd, ltF, ltFc, ltFd, eqT, eqTc, eqTd, eqF, eqFc, eqFd, m1T, m1F, m1T', m1F', inb_nI, ix_nI, inb_c, ix_c, nI_1, nI_pred, nI_m1, add_nIc, add_cnI, bd_v, reduceCtorEq, eqFcc, m1e0, m1e1, m1l0, m1g0, m2l0, m2g0, Int32.reduceLT, Int32.reduceLE, Int32.reduceAdd, Int32.reduceSub, Int32.reduceMul, eq_self, Bool.false_eq_true, t0]
    exact ok_some hx
