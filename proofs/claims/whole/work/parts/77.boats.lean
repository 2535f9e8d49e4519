/-! PURE: boats of the class -/
def adV (n : Nat) (p t : Int32) (v : VV) : VV := (up1 (up1 (up1 v.1 n p) (6 + n) t) (12 + n) (nI n), up1 v.2 n n)
def adsV (n : Nat) (f : Nat → Nat) (v : VV) : Nat → VV
  | 0 => v
  | i + 1 => adV (n + i) (nI (f (3 * i) - 48)) (nI (f (3 * i + 1) - 48)) (adsV n f v i)
theorem wf_adV {n : Nat} {p t : Int32} {v : VV} (hw : WfV n v) (h6 : n < 6) : WfV (n + 1) (adV n p t v) := by
  have e : ∀ j, 12 ≤ j → j ≠ 12 + n → (adV n p t v).1 j = v.1 j := fun j h1 h2 => by
    show up1 (up1 (up1 v.1 n p) (6 + n) t) (12 + n) (nI n) j = _
    rw [up1_n h2, up1_n (by omega), up1_n (by omega)]
  have eo : ∀ k, k ≠ n → (adV n p t v).2 k = v.2 k := fun k hk => up1_n hk
  have en : (adV n p t v).2 n = n := up1_e rfl
  refine ⟨by omega, fun k hk => ?_, fun b hb => ?_, ?_, ?_⟩
  · by_cases c : k = n
    · subst c
      rw [en]
      exact ⟨by omega, up1_e rfl⟩
    · have h1 := hw.2.1 k (by omega)
      rw [eo k c]
      refine ⟨by omega, ?_⟩
      rw [e _ (by omega) (by omega)]
      exact h1.2
  · by_cases c : b = n
    · exact ⟨n, by omega, by rw [en, c]⟩
    · obtain ⟨k, hk, ek⟩ := hw.2.2.1 b (by omega)
      exact ⟨k, by omega, by rw [eo k (by omega)]; exact ek⟩
  · rw [e 18 (by omega) (by omega)]; exact hw.2.2.2.1
  · rw [e 19 (by omega) (by omega)]; exact hw.2.2.2.2
theorem wf_adsV {n : Nat} {f : Nat → Nat} {v : VV} (hw : WfV n v) : ∀ i, n + i ≤ 6 → WfV (n + i) (adsV n f v i)
  | 0, _ => hw
  | i + 1, h => wf_adV (n := n + i) (wf_adsV hw i (by omega)) (by omega)
theorem c_addBoat {M : Mem} {n : Nat} {p t : Int32} {v : VV} (hw : WfV n v) (h6 : n < 6) (hv : RvC 6 n v M) : Ok (fX4_addBoat 6 p t M) (fun M' => RvC 6 (n + 1) (adV n p t v) M' ∧ Fr (fun a => 6 ≤ a ∧ a ≤ 10) M M') := by
  obtain ⟨v1, v2, v3, v4, v5, v6, v7, v8, v9⟩ := hv
  have e : ∀ j, j ≠ n → j ≠ 6 + n → j ≠ 12 + n → (adV n p t v).1 j = v.1 j := fun j h1 h2 h3 => by
    show up1 (up1 (up1 v.1 n p) (6 + n) t) (12 + n) (nI n) j = _
    rw [up1_n h3, up1_n h2, up1_n h1]
  have e1 : (adV n p t v).1 n = p := by
    show up1 (up1 (up1 v.1 n p) (6 + n) t) (12 + n) (nI n) n = _
    rw [up1_n (by omega), up1_n (by omega), up1_e rfl]
  have e2 : (adV n p t v).1 (6 + n) = t := by
    show up1 (up1 (up1 v.1 n p) (6 + n) t) (12 + n) (nI n) (6 + n) = _
    rw [up1_n (by omega), up1_e rfl]
  have e3 : (adV n p t v).1 (12 + n) = nI n := up1_e rfl
  rw [e_X4_addBoat]
  simp (disch := omega) only [↓reduceIte, ic_t, ic_f, not_true_eq_false, not_false_eq_true, ↓lt_v, rdR, rdE, rdS, leT, leTc, leTd, leF, leFc, leFd, ltT, ltTc, ltTd, ltF, ltFc, ltFd, eqT, eqTc, eqTd, eqF, eqFc, eqFd, m1T, m1F, m1T', m1F', inb_nI, ix_nI, inb_c, ix_c, nI_1, nI_pred, nI_m1, add_nIc, add_cnI, bd_v, reduceCtorEq, eqFcc, m1e0, m1e1, m1l0, m1g0, m2l0, m2g0, Int32.reduceLT, Int32.reduceLE, Int32.reduceAdd, Int32.reduceSub, Int32.reduceMul, eq_self, Bool.false_eq_true, v1]
  refine ok_some ⟨⟨?_, fun b hb => ?_, fun b hb => ?_, fun b hb => ?_, fun k hk => ?_, ?_, ?_, ?_, ?_⟩, by repeat (first | exact fr_rfl | refine fr_trans ?_ (fr_sI (by omega)))⟩
  · simp (disch := omega) only [↓reduceIte, ic_t, ic_f, not_true_eq_false, not_false_eq_true, ↓lt_v, rdR, rdE, rdS, leT, leTc, leTd, leF, leFc, leFd, ltT, ltTc, ltTd, ltF, ltFc, ltFd, eqT, eqTc, eqTd, eqF, eqFc, eqFd, m1T, m1F, m1T', m1F', inb_nI, ix_nI, inb_c, ix_c, nI_1, nI_pred, nI_m1, add_nIc, add_cnI, bd_v, reduceCtorEq, eqFcc, m1e0, m1e1, m1l0, m1g0, m2l0, m2g0, Int32.reduceLT, Int32.reduceLE, Int32.reduceAdd, Int32.reduceSub, Int32.reduceMul, eq_self, Bool.false_eq_true]
  · by_cases c : b = n
    · subst c; rw [e1]; simp (disch := omega) only [↓reduceIte, ic_t, ic_f, not_true_eq_false, not_false_eq_true, ↓lt_v, rdR, rdE, rdS, leT, leTc, leTd, leF, leFc, leFd, ltT, ltTc, ltTd, ltF, ltFc, ltFd, eqT, eqTc, eqTd, eqF, eqFc, eqFd, m1T, m1F, m1T', m1F', inb_nI, ix_nI, inb_c, ix_c, nI_1, nI_pred, nI_m1, add_nIc, add_cnI, bd_v, reduceCtorEq, eqFcc, m1e0, m1e1, m1l0, m1g0, m2l0, m2g0, Int32.reduceLT, Int32.reduceLE, Int32.reduceAdd, Int32.reduceSub, Int32.reduceMul, eq_self, Bool.false_eq_true]
    · rw [e b c (by omega) (by omega)]; simp (disch := omega) only [↓reduceIte, ic_t, ic_f, not_true_eq_false, not_false_eq_true, ↓lt_v, rdR, rdE, rdS, leT, leTc, leTd, leF, leFc, leFd, ltT, ltTc, ltTd, ltF, ltFc, ltFd, eqT, eqTc, eqTd, eqF, eqFc, eqFd, m1T, m1F, m1T', m1F', inb_nI, ix_nI, inb_c, ix_c, nI_1, nI_pred, nI_m1, add_nIc, add_cnI, bd_v, reduceCtorEq, eqFcc, m1e0, m1e1, m1l0, m1g0, m2l0, m2g0, Int32.reduceLT, Int32.reduceLE, Int32.reduceAdd, Int32.reduceSub, Int32.reduceMul, eq_self, Bool.false_eq_true]; exact v2 b (by omega)
  · by_cases c : b = n
    · subst c; rw [e2]; simp (disch := omega) only [↓reduceIte, ic_t, ic_f, not_true_eq_false, not_false_eq_true, ↓lt_v, rdR, rdE, rdS, leT, leTc, leTd, leF, leFc, leFd, ltT, ltTc, ltTd, ltF, ltFc, ltFd, eqT, eqTc, eqTd, eqF, eqFc, eqFd, m1T, m1F, m1T', m1F', inb_nI, ix_nI, inb_c, ix_c, nI_1, nI_pred, nI_m1, add_nIc, add_cnI, bd_v, reduceCtorEq, eqFcc, m1e0, m1e1, m1l0, m1g0, m2l0, m2g0, Int32.reduceLT, Int32.reduceLE, Int32.reduceAdd, Int32.reduceSub, Int32.reduceMul, eq_self, Bool.false_eq_true]
    · rw [e _ (by omega) (by omega) (by omega)]; simp (disch := omega) only [↓reduceIte, ic_t, ic_f, not_true_eq_false, not_false_eq_true, ↓lt_v, rdR, rdE, rdS, leT, leTc, leTd, leF, leFc, leFd, ltT, ltTc, ltTd, ltF, ltFc, ltFd, eqT, eqTc, eqTd, eqF, eqFc, eqFd, m1T, m1F, m1T', m1F', inb_nI, ix_nI, inb_c, ix_c, nI_1, nI_pred, nI_m1, add_nIc, add_cnI, bd_v, reduceCtorEq, eqFcc, m1e0, m1e1, m1l0, m1g0, m2l0, m2g0, Int32.reduceLT, Int32.reduceLE, Int32.reduceAdd, Int32.reduceSub, Int32.reduceMul, eq_self, Bool.false_eq_true]; exact v3 b (by omega)
  · by_cases c : b = n
    · subst c; rw [e3]; simp (disch := omega) only [↓reduceIte, ic_t, ic_f, not_true_eq_false, not_false_eq_true, ↓lt_v, rdR, rdE, rdS, leT, leTc, leTd, leF, leFc, leFd, ltT, ltTc, ltTd, ltF, ltFc, ltFd, eqT, eqTc, eqTd, eqF, eqFc, eqFd, m1T, m1F, m1T', m1F', inb_nI, ix_nI, inb_c, ix_c, nI_1, nI_pred, nI_m1, add_nIc, add_cnI, bd_v, reduceCtorEq, eqFcc, m1e0, m1e1, m1l0, m1g0, m2l0, m2g0, Int32.reduceLT, Int32.reduceLE, Int32.reduceAdd, Int32.reduceSub, Int32.reduceMul, eq_self, Bool.false_eq_true]
    · rw [e _ (by omega) (by omega) (by omega)]; simp (disch := omega) only [↓reduceIte, ic_t, ic_f, not_true_eq_false, not_false_eq_true, ↓lt_v, rdR, rdE, rdS, leT, leTc, leTd, leF, leFc, leFd, ltT, ltTc, ltTd, ltF, ltFc, ltFd, eqT, eqTc, eqTd, eqF, eqFc, eqFd, m1T, m1F, m1T', m1F', inb_nI, ix_nI, inb_c, ix_c, nI_1, nI_pred, nI_m1, add_nIc, add_cnI, bd_v, reduceCtorEq, eqFcc, m1e0, m1e1, m1l0, m1g0, m2l0, m2g0, Int32.reduceLT, Int32.reduceLE, Int32.reduceAdd, Int32.reduceSub, Int32.reduceMul, eq_self, Bool.false_eq_true]; exact v4 b (by omega)
  · by_cases c : k = n
    · subst c
      rw [show (adV k p t v).2 k = k from up1_e rfl]; simp (disch := omega) only [↓reduceIte, ic_t, ic_f, not_true_eq_false, not_false_eq_true, ↓lt_v, rdR, rdE, rdS, leT, leTc, leTd, leF, leFc, leFd, ltT, ltTc, ltTd, ltF, ltFc, ltFd, eqT, eqTc, eqTd, eqF, eqFc, eqFd, m1T, m1F, m1T', m1F', inb_nI, ix_nI, inb_c, ix_c, nI_1, nI_pred, nI_m1, add_nIc, add_cnI, bd_v, reduceCtorEq, eqFcc, m1e0, m1e1, m1l0, m1g0, m2l0, m2g0, Int32.reduceLT, Int32.reduceLE, Int32.reduceAdd, Int32.reduceSub, Int32.reduceMul, eq_self, Bool.false_eq_true]
    · rw [show (adV n p t v).2 k = v.2 k from up1_n c]; simp (disch := omega) only [↓reduceIte, ic_t, ic_f, not_true_eq_false, not_false_eq_true, ↓lt_v, rdR, rdE, rdS, leT, leTc, leTd, leF, leFc, leFd, ltT, ltTc, ltTd, ltF, ltFc, ltFd, eqT, eqTc, eqTd, eqF, eqFc, eqFd, m1T, m1F, m1T', m1F', inb_nI, ix_nI, inb_c, ix_c, nI_1, nI_pred, nI_m1, add_nIc, add_cnI, bd_v, reduceCtorEq, eqFcc, m1e0, m1e1, m1l0, m1g0, m2l0, m2g0, Int32.reduceLT, Int32.reduceLE, Int32.reduceAdd, Int32.reduceSub, Int32.reduceMul, eq_self, Bool.false_eq_true]; exact v5 k (by omega)
  · rw [e _ (by omega) (by omega) (by omega)]; simp (disch := omega) only [↓reduceIte, ic_t, ic_f, not_true_eq_false, not_false_eq_true, ↓lt_v, rdR, rdE, rdS, leT, leTc, leTd, leF, leFc, leFd, ltT, ltTc, ltTd, ltF, ltFc, ltFd, eqT, eqTc, eqTd, eqF, eqFc, eqFd, m1T, m1F, m1T', m1F', inb_nI, ix_nI, inb_c, ix_c, nI_1, nI_pred, nI_m1, add_nIc, add_cnI, bd_v, reduceCtorEq, eqFcc, m1e0, m1e1, m1l0, m1g0, m2l0, m2g0, Int32.reduceLT, Int32.reduceLE, Int32.reduceAdd, Int32.reduceSub, Int32.reduceMul, eq_self, Bool.false_eq_true]; exact v6
  · rw [e _ (by omega) (by omega) (by omega)]; simp (disch := omega) only [↓reduceIte, ic_t, ic_f, not_true_eq_false, not_false_eq_true, ↓lt_v, rdR, rdE, rdS, leT, leTc, leTd, leF, leFc, leFd, ltT, ltTc, ltTd, ltF, ltFc, ltFd, eqT, eqTc, eqTd, eqF, eqFc, eqFd, m1T, m1F, m1T', m1F', inb_nI, ix_nI, inb_c, ix_c, nI_1, nI_pred, nI_m1, add_nIc, add_cnI, bd_v, reduceCtorEq, eqFcc, m1e0, m1e1, m1l0, m1g0, m2l0, m2g0, Int32.reduceLT, Int32.reduceLE, Int32.reduceAdd, Int32.reduceSub, Int32.reduceMul, eq_self, Bool.false_eq_true]; exact v7
  · rw [e _ (by omega) (by omega) (by omega)]; simp (disch := omega) only [↓reduceIte, ic_t, ic_f, not_true_eq_false, not_false_eq_true, ↓lt_v, rdR, rdE, rdS, leT, leTc, leTd, leF, leFc, leFd, ltT, ltTc, ltTd, ltF, ltFc, ltFd, eqT, eqTc, eqTd, eqF, eqFc, eqFd, m1T, m1F, m1T', m1F', inb_nI, ix_nI, inb_c, ix_c, nI_1, nI_pred, nI_m1, add_nIc, add_cnI, bd_v, reduceCtorEq, eqFcc, m1e0, m1e1, m1l0, m1g0, m2l0, m2g0, Int32.reduceLT, Int32.reduceLE, Int32.reduceAdd, Int32.reduceSub, Int32.reduceMul, eq_self, Bool.false_eq_true]; exact v8
  · rw [e _ (by omega) (by omega) (by omega)]; simp (disch := omega) only [↓reduceIte, ic_t, ic_f, not_true_eq_false, not_false_eq_true, ↓lt_v, rdR, rdE, rdS, leT, leTc, leTd, leF, leFc, leFd, ltT, ltTc, ltTd, ltF, ltFc, ltFd, eqT, eqTc, eqTd, eqF, eqFc, eqFd, m1T, m1F, m1T', m1F', inb_nI, ix_nI, inb_c, ix_c, nI_1, nI_pred, nI_m1, add_nIc, add_cnI, bd_v, reduceCtorEq, eqFcc, m1e0, m1e1, m1l0, m1g0, m2l0, m2g0, Int32.reduceLT, Int32.reduceLE, Int32.reduceAdd, Int32.reduceSub, Int32.reduceMul, eq_self, Bool.false_eq_true]; exact v9
theorem c_forgetKept {M : Mem} : Ok (fX9_forgetKept M) (fun M' => (∀ i, i < 3 → M'.1 104 i = 0) ∧ Fr (fun a => a = 104) M M') := by
  rw [e_X9_forgetKept]
  have hFU : 2000 < FU := FU_big
  generalize FU = fu0 at hFU ⊢
  refine ok_loop 3 (fun fu k s => fX9_forgetKept_2 fu (nI k) s) (fun k s => (∀ i, i < k → s.1 104 i = 0) ∧ Fr (fun a => a = 104) M s) ?_ ?_ fu0 0 M (by omega) (by omega) ⟨fun i hi => absurd hi (Nat.not_lt_zero _), fr_rfl⟩
  · intro fu k s hk hs ih
    obtain ⟨b1, b2⟩ := hs
    rw [e_X9_forgetKept_2]
    simp (disch := omega) only [↓reduceIte, ic_t, ic_f, not_true_eq_false, not_false_eq_true, ↓lt_v, rdR, rdE, rdS, leT, leTc, leTd, leF, leFc, leFd, ltT, ltTc, ltTd, ltF, ltFc, ltFd, eqT, eqTc, eqTd, eqF, eqFc, eqFd, m1T, m1F, m1T', m1F', inb_nI, ix_nI, inb_c, ix_c, nI_1, nI_pred, nI_m1, add_nIc, add_cnI, bd_v, reduceCtorEq, eqFcc, m1e0, m1e1, m1l0, m1g0, m2l0, m2g0, Int32.reduceLT, Int32.reduceLE, Int32.reduceAdd, Int32.reduceSub, Int32.reduceMul, eq_self, Bool.false_eq_true, nn01]
    refine ih _ ⟨fun i hi => ?_, fr_trans b2 (fr_sI rfl)⟩
    by_cases e : i = k
    · subst e; simp (disch := omega) only [↓reduceIte, ic_t, ic_f, not_true_eq_false, not_false_eq_true, ↓lt_v, rdR, rdE, rdS, leT, leTc, leTd, leF, leFc, leFd, ltT, ltTc, ltTd, ltF, ltFc, ltFd, eqT, eqTc, eqTd, eqF, eqFc, eqFd, m1T, m1F, m1T', m1F', inb_nI, ix_nI, inb_c, ix_c, nI_1, nI_pred, nI_m1, add_nIc, add_cnI, bd_v, reduceCtorEq, eqFcc, m1e0, m1e1, m1l0, m1g0, m2l0, m2g0, Int32.reduceLT, Int32.reduceLE, Int32.reduceAdd, Int32.reduceSub, Int32.reduceMul, eq_self, Bool.false_eq_true]
    · simp (disch := omega) only [↓reduceIte, ic_t, ic_f, not_true_eq_false, not_false_eq_true, ↓lt_v, rdR, rdE, rdS, leT, leTc, leTd, leF, leFc, leFd, ltT, ltTc, ltTd, ltF, ltFc, ltFd, eqT, eqTc, eqTd, eqF, eqFc, eqFd, m1T, m1F, m1T', m1F', inb_nI, ix_nI, inb_c, ix_c, nI_1, nI_pred, nI_m1, add_nIc, add_cnI, bd_v, reduceCtorEq, eqFcc, m1e0, m1e1, m1l0, m1g0, m2l0, m2g0, Int32.reduceLT, Int32.reduceLE, Int32.reduceAdd, Int32.reduceSub, Int32.reduceMul, eq_self, Bool.false_eq_true]; exact b1 i (by omega)
  · intro fu s hs
    rw [e_X9_forgetKept_2]
    simp (disch := omega) only [↓reduceIte, ic_t, ic_f, not_true_eq_false, not_false_eq_true, ↓lt_v, rdR, rdE, rdS, leT, leTc, leTd, leF, leFc, leFd, ltT, ltTc, ltTd, ltF, ltFc, ltFd, eqT, eqTc, eqTd, eqF, eqFc, eqFd, m1T, m1F, m1T', m1F', inb_nI, ix_nI, inb_c, ix_c, nI_1, nI_pred, nI_m1, add_nIc, add_cnI, bd_v, reduceCtorEq, eqFcc, m1e0, m1e1, m1l0, m1g0, m2l0, m2g0, Int32.reduceLT, Int32.reduceLE, Int32.reduceAdd, Int32.reduceSub, Int32.reduceMul, eq_self, Bool.false_eq_true]
    exact ok_some hs
/-- the text is empty -/
def emS (S : SP) : SP := (S.1, (0, S.2.1.2), S.2.2)
def boS (S : SP) : SP := ((S.1.1 + (S.2.1.1 + 1) / 3, adsV S.1.1 S.2.1.2 S.1.2.1 ((S.2.1.1 + 1) / 3), S.1.2.2), (0, S.2.1.2), S.2.2.1, (0, S.2.2.2.1.2), ((fun _ => false), S.2.2.2.2.1.2), S.2.2.2.2.2)
theorem bok_fl {L room : Nat} {f : Nat → Nat} (h : bOK L room f) (h0 : L ≠ 0) : (L + 1) / 3 ≤ room ∧ ∀ i, i < (L + 1) / 3 → (3 * i + 1 < L ∧ isD (f (3 * i)) = true ∧ isD (f (3 * i + 1)) = true) := by
  obtain ⟨h1, h2, h3⟩ := h.resolve_left h0
  have all : ∀ p, p < L → fl room f p = true := fun p hp => bF_all (by rw [h2]; exact hp)
  have st : ∀ i, i < (L + 1) / 3 → i < room ∧ isD (f (3 * i)) = true := by
    intro i hi
    have := all (3 * i) (by omega)
    unfold fl at this
    rw [if_pos (by omega), show 3 * i / 3 = i by omega] at this
    simp only [Bool.and_eq_true, decide_eq_true_eq] at this
    exact ⟨this.1, this.2.1⟩
  refine ⟨?_, fun i hi => ⟨by omega, (st i hi).2, ?_⟩⟩
  · have := (st ((L + 1) / 3 - 1) (by omega)).1
    omega
  · have := all (3 * i + 1) (by omega)
    unfold fl at this
    rw [if_neg (by omega), if_pos (by omega)] at this
    exact this
theorem c_boats {S : SP} {M : Mem} (hS : spOK S) (hc : CRel S M) : Ok (fX9_boats M) (fun q => (bOK S.2.1.1 (6 - S.1.1) S.2.1.2 → q.1 = nI ((S.2.1.1 + 1) / 3) ∧ CRel (if S.2.1.1 = 0 then emS S else boS S) q.2) ∧ (¬ bOK S.2.1.1 (6 - S.1.1) S.2.1.2 → q.1 = -1 - nI (bF S.2.1.1 (6 - S.1.1) S.2.1.2) ∧ CRel (emS S) q.2) ∧ CFr M q.2) := by
  have hn : S.1.1 ≤ 6 := hS.1.1
  have hR := hc.1.2.2.2.2
  have hc0 := hc
  obtain ⟨h1, h2, h3, h4, h5, h6, h7, h8⟩ := hc
  have h80 := h3.1
  have hble := bF_le (L := S.2.1.1) (room := 6 - S.1.1) (f := S.2.1.2)
  have empty : CRel (emS S) (sI M 2 1 0) ∧ CFr M (sI M 2 1 0) := ⟨crel_all hc0 ⟨rfl, rfl⟩ h1.1 ⟨rfl, rfl⟩ ⟨row_n (by omega), row_n (by omega)⟩ (rivC_fr h1.2.1 (fun a _ _ => row_n (by omega))) ⟨Nat.zero_le _, rdE rfl rfl, fun i hi => absurd hi (Nat.not_lt_zero _)⟩ (rwC_fr h4 (row_n (by omega)) rfl) (psC_fr h5 (fun a _ _ => row_n (by omega)) rfl) (kpC_fr h6 (fun a ha => row_n (by omega)) rfl) (hC_fr h7 (fun a ha => row_n (by omega))) ⟨row_n (by omega), row_n (by omega)⟩, fun a ha => ⟨row_n (by omega), rfl⟩⟩
  rw [e_X9_boats]
  refine ok_call (c_boatsFault hn h3 h1.2.1.1) (fun q g => ?_)
  obtain ⟨g1, g2⟩ := g
  rw [g1]
  rcases g2 with ⟨hok, hq⟩ | ⟨hno, hq⟩
  · rw [hq]
    have e2 := h3.2.1
    have hl : nI (S.2.1.1 + 1) / 3 = nI ((S.2.1.1 + 1) / 3) := pk_div (d := 3) (by omega) (by omega) (by omega)
    by_cases h0 : S.2.1.1 = 0
    · have hz : (S.2.1.1 + 1) / 3 = 0 := by omega
      simp (disch := omega) only [↓reduceIte, ic_t, ic_f, not_true_eq_false, not_false_eq_true, ↓lt_v, rdR, rdE, rdS, leT, leTc, leTd, leF, leFc, leFd, ltT, ltTc, ltTd, ltF, ltFc, ltFd, eqT, eqTc, eqTd, eqF, eqFc, eqFd, m1T, m1F, m1T', m1F', inb_nI, ix_nI, inb_c, ix_c, nI_1, nI_pred, nI_m1, add_nIc, add_cnI, bd_v, reduceCtorEq, eqFcc, m1e0, m1e1, m1l0, m1g0, m2l0, m2g0, Int32.reduceLT, Int32.reduceLE, Int32.reduceAdd, Int32.reduceSub, Int32.reduceMul, eq_self, Bool.false_eq_true, e2, hl, hz]
      have hFU : 2000 < FU := FU_big
      obtain ⟨fu, hfu⟩ : ∃ fu, FU = fu + 1 := ⟨FU - 1, by omega⟩
      rw [hfu, e_X9_boats_27]
      simp (disch := omega) only [↓reduceIte, ic_t, ic_f, not_true_eq_false, not_false_eq_true, ↓lt_v, rdR, rdE, rdS, leT, leTc, leTd, leF, leFc, leFd, ltT, ltTc, ltTd, ltF, ltFc, ltFd, eqT, eqTc, eqTd, eqF, eqFc, eqFd, m1T, m1F, m1T', m1F', inb_nI, ix_nI, inb_c, ix_c, nI_1, nI_pred, nI_m1, add_nIc, add_cnI, bd_v, reduceCtorEq, eqFcc, m1e0, m1e1, m1l0, m1g0, m2l0, m2g0, Int32.reduceLT, Int32.reduceLE, Int32.reduceAdd, Int32.reduceSub, Int32.reduceMul, eq_self, Bool.false_eq_true, e_X9_boats_83]
      refine ok_some ⟨fun _ => ⟨?_, ?_⟩, fun hno => absurd hok hno, empty.2⟩
      · first | rfl | (rw [hz])
      · first | exact empty.1 | (rw [if_pos h0]; exact empty.1)
    · obtain ⟨hroom, hdig⟩ := bok_fl hok h0
      have hk1 : 1 ≤ (S.2.1.1 + 1) / 3 := by have := hok.resolve_left h0; omega
      simp (disch := omega) only [↓reduceIte, ic_t, ic_f, not_true_eq_false, not_false_eq_true, ↓lt_v, rdR, rdE, rdS, leT, leTc, leTd, leF, leFc, leFd, ltT, ltTc, ltTd, ltF, ltFc, ltFd, eqT, eqTc, eqTd, eqF, eqFc, eqFd, m1T, m1F, m1T', m1F', inb_nI, ix_nI, inb_c, ix_c, nI_1, nI_pred, nI_m1, add_nIc, add_cnI, bd_v, reduceCtorEq, eqFcc, m1e0, m1e1, m1l0, m1g0, m2l0, m2g0, Int32.reduceLT, Int32.reduceLE, Int32.reduceAdd, Int32.reduceSub, Int32.reduceMul, eq_self, Bool.false_eq_true, e2, hl]
      have hFU : 2000 < FU := FU_big
      generalize FU = fu0 at hFU ⊢
      refine ok_loop ((S.2.1.1 + 1) / 3) (fun fu i s => fX9_boats_27 fu (-1) (nI ((S.2.1.1 + 1) / 3)) (nI i) s) (fun i s => RvC 6 (S.1.1 + i) (adsV S.1.1 S.2.1.2 S.1.2.1 i) s ∧ Fr (fun a => 6 ≤ a ∧ a ≤ 10) M s) ?_ ?_ fu0 0 M (by omega) (by omega) ⟨h1.2.1, fr_rfl⟩
      · intro fu i s hi hs ih
        obtain ⟨b1, b2⟩ := hs
        obtain ⟨d1, d2, d3⟩ := hdig i hi
        have ht : TxC S.2.1.1 S.2.1.2 s := txC_fr h3 (b2.1 2 (by omega)) (b2.1 3 (by omega))
        have g1 := c_digitAt (p := 3 * i) ht (by omega)
        have g2 := c_digitAt (p := 3 * i + 1) ht (by omega)
        rw [if_pos ⟨by omega, d2⟩] at g1
        rw [if_pos ⟨d1, d3⟩] at g2
        have m3 : (3 : Int32) * nI i = nI (3 * i) := by rw [show (3 : Int32) = nI 3 from rfl, pk_mul]
        rw [e_X9_boats_27]
        simp (disch := omega) only [↓reduceIte, ic_t, ic_f, not_true_eq_false, not_false_eq_true, ↓lt_v, rdR, rdE, rdS, leT, leTc, leTd, leF, leFc, leFd, ltT, ltTc, ltTd, ltF, ltFc, ltFd, eqT, eqTc, eqTd, eqF, eqFc, eqFd, m1T, m1F, m1T', m1F', inb_nI, ix_nI, inb_c, ix_c, nI_1, nI_pred, nI_m1, add_nIc, add_cnI, bd_v, reduceCtorEq, eqFcc, m1e0, m1e1, m1l0, m1g0, m2l0, m2g0, Int32.reduceLT, Int32.reduceLE, Int32.reduceAdd, Int32.reduceSub, Int32.reduceMul, eq_self, Bool.false_eq_true, m3, g1, g2]
        refine ok_call (c_addBoat (wf_adsV hS.1 i (by omega)) (by omega) b1) (fun M1 k => ?_)
        exact ih _ ⟨k.1, fr_trans b2 k.2⟩
      · intro fu s hs
        obtain ⟨b1, b2⟩ := hs
        rw [e_X9_boats_27]
        simp (disch := omega) only [↓reduceIte, ic_t, ic_f, not_true_eq_false, not_false_eq_true, ↓lt_v, rdR, rdE, rdS, leT, leTc, leTd, leF, leFc, leFd, ltT, ltTc, ltTd, ltF, ltFc, ltFd, eqT, eqTc, eqTd, eqF, eqFc, eqFd, m1T, m1F, m1T', m1F', inb_nI, ix_nI, inb_c, ix_c, nI_1, nI_pred, nI_m1, add_nIc, add_cnI, bd_v, reduceCtorEq, eqFcc, m1e0, m1e1, m1l0, m1g0, m2l0, m2g0, Int32.reduceLT, Int32.reduceLE, Int32.reduceAdd, Int32.reduceSub, Int32.reduceMul, eq_self, Bool.false_eq_true]
        refine ok_call c_forgetKept (fun M1 k => ?_)
        obtain ⟨k1, k2⟩ := k
        simp (disch := omega) only [↓reduceIte, ic_t, ic_f, not_true_eq_false, not_false_eq_true, ↓lt_v, rdR, rdE, rdS, leT, leTc, leTd, leF, leFc, leFd, ltT, ltTc, ltTd, ltF, ltFc, ltFd, eqT, eqTc, eqTd, eqF, eqFc, eqFd, m1T, m1F, m1T', m1F', inb_nI, ix_nI, inb_c, ix_c, nI_1, nI_pred, nI_m1, add_nIc, add_cnI, bd_v, reduceCtorEq, eqFcc, m1e0, m1e1, m1l0, m1g0, m2l0, m2g0, Int32.reduceLT, Int32.reduceLE, Int32.reduceAdd, Int32.reduceSub, Int32.reduceMul, eq_self, Bool.false_eq_true, e_X9_boats_83]
        have ro : ∀ a, ¬ (6 ≤ a ∧ a ≤ 10) → a ≠ 2 → a ≠ 26 → a ≠ 104 → (sI M1 2 1 0).1 a = M.1 a := fun a c1 c2 c3 c4 => by rw [row_n c2, k2.1 a c4, row_n c3, b2.1 a c1]
        have re : (sI M1 2 1 0).2 = M.2 := by show M1.2 = _; rw [k2.2]; show s.2 = _; rw [b2.2]
        refine ok_some ⟨fun _ => ⟨rfl, ?_⟩, fun hno => absurd hok hno, fun a ha => ⟨ro a (by omega) (by omega) (by omega) (by omega), by show (sI M1 2 1 0).2.1 a = _; rw [re]⟩⟩
        rw [if_neg h0]
        refine ⟨⟨wf_adsV hS.1 _ (by omega), rivC_fr b1 (fun a c1 c2 => by rw [row_n (by omega), k2.1 a (by omega), row_n (by omega)]), ?_, rfl, by rw [re]; exact hR⟩, by rw [re]; exact h2, ⟨Nat.zero_le _, rdE rfl rfl, fun i hi => absurd hi (Nat.not_lt_zero _)⟩, rwC_fr h4 (ro 4 (by omega) (by omega) (by omega) (by omega)) (by rw [re]), ⟨Nat.zero_le _, ?_, by rw [re]; exact h5.2.2.1, by rw [re]; exact h5.2.2.2.1, fun j hj => absurd hj (Nat.not_lt_zero _)⟩, fun i hi => ⟨⟨by rw [re]; exact (h6 i hi).1.1, ?_⟩, fun hk => by cases hk⟩, hC_fr h7 (fun a ha => ro a (by omega) (by omega) (by omega) (by omega)), ?_⟩
        · rw [re]
          exact ruC_fr h1.2.2.1 (ro _ (by omega) (by omega) (by omega) (by omega)) (ro _ (by omega) (by omega) (by omega) (by omega))
        · show (sI M1 2 1 0).1 26 1 = nI 0
          rw [rdR (by omega), k2.1 26 (by omega)]
          exact rdE rfl rfl
        · show (sI M1 2 1 0).1 104 i = bI false
          rw [rdR (by omega)]
          exact k1 i hi
        · unfold LawP
          rw [ro 115 (by omega) (by omega) (by omega) (by omega), ro 137 (by omega) (by omega) (by omega) (by omega)]
          exact h8
  · rw [hq]
    have hFU : 2000 < FU := FU_big
    obtain ⟨fu, hfu⟩ : ∃ fu, FU = fu + 1 := ⟨FU - 1, by omega⟩
    simp (disch := omega) only [↓reduceIte, ic_t, ic_f, not_true_eq_false, not_false_eq_true, ↓lt_v, rdR, rdE, rdS, leT, leTc, leTd, leF, leFc, leFd, ltT, ltTc, ltTd, ltF, ltFc, ltFd, eqT, eqTc, eqTd, eqF, eqFc, eqFd, m1T, m1F, m1T', m1F', inb_nI, ix_nI, inb_c, ix_c, nI_1, nI_pred, nI_m1, add_nIc, add_cnI, bd_v, reduceCtorEq, eqFcc, m1e0, m1e1, m1l0, m1g0, m2l0, m2g0, Int32.reduceLT, Int32.reduceLE, Int32.reduceAdd, Int32.reduceSub, Int32.reduceMul, eq_self, Bool.false_eq_true]
    rw [hfu, e_X9_boats_27]
    simp (disch := omega) only [↓reduceIte, ic_t, ic_f, not_true_eq_false, not_false_eq_true, ↓lt_v, rdR, rdE, rdS, leT, leTc, leTd, leF, leFc, leFd, ltT, ltTc, ltTd, ltF, ltFc, ltFd, eqT, eqTc, eqTd, eqF, eqFc, eqFd, m1T, m1F, m1T', m1F', inb_nI, ix_nI, inb_c, ix_c, nI_1, nI_pred, nI_m1, add_nIc, add_cnI, bd_v, reduceCtorEq, eqFcc, m1e0, m1e1, m1l0, m1g0, m2l0, m2g0, Int32.reduceLT, Int32.reduceLE, Int32.reduceAdd, Int32.reduceSub, Int32.reduceMul, eq_self, Bool.false_eq_true, e_X9_boats_83]
    exact ok_some ⟨fun h => absurd h hno, fun _ => ⟨rfl, empty.1⟩, empty.2⟩
