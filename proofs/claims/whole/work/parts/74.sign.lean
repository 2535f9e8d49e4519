/-! PURE: sign -/
theorem bvb (y : BitVec 32) (s : Nat) (hs : s ≤ 24) : (y >>> s) &&& 255#32 = (y.sshiftRight s) &&& 255#32 := by
  apply BitVec.eq_of_getLsbD_eq
  intro i hi
  rw [BitVec.getLsbD_and, BitVec.getLsbD_and, BitVec.getLsbD_ushiftRight, BitVec.getLsbD_sshiftRight]
  by_cases h : i < 8
  · have h1 : s + i < 32 := by omega
    have h3 : ¬ 32 ≤ i := by omega
    simp [h1, hi, h3]
  · have h2 : (255#32).getLsbD i = false := by
      have : ∀ i, i < 32 → 8 ≤ i → (255#32).getLsbD i = false := by decide
      exact this i hi (by omega)
    rw [h2]
    simp
theorem shr_same (x : Int32) (a b : Int32) (s : Nat) (hs : s ≤ 24) (ha : ((a.toUInt32 &&& Int32.toUInt32 31).toBitVec % 32).toNat = s) (hb : (b.toBitVec.smod 32).toNat = s) : ((x.toUInt32 >>> (Int32.toUInt32 a &&& Int32.toUInt32 31)).toInt32) &&& 255 = (x >>> b) &&& 255 := by
  apply Int32.toBitVec_inj.mp
  have e1 : (x.toUInt32 >>> (a.toUInt32 &&& Int32.toUInt32 31)).toInt32.toBitVec = x.toBitVec >>> s := by
    rw [← ha]
    exact UInt32.toBitVec_shiftRight _ _
  have e2 : (x >>> b).toBitVec = x.toBitVec.sshiftRight s := by
    rw [← hb]
    rfl
  show (x.toUInt32 >>> (a.toUInt32 &&& Int32.toUInt32 31)).toInt32.toBitVec &&& (255 : Int32).toBitVec = (x >>> b).toBitVec &&& (255 : Int32).toBitVec
  rw [e1, e2]
  exact bvb x.toBitVec s hs
/-- the four signs -/
def sg (x : Int32) (k : Nat) : Nat := ix ((x >>> ((24 - 8 * nI k) &&& 31)) &&& 255)
theorem sg_eq (x : Int32) (k : Nat) : (x >>> ((24 - 8 * nI k) &&& 31)) &&& 255 = nI (sg x k) ∧ sg x k < 256 := by
  obtain ⟨j, hj, e⟩ := pk_andE (x >>> ((24 - 8 * nI k) &&& 31)) (m := 255) 8 (by decide)
  unfold sg
  rw [e, ix_nI (by omega)]
  exact ⟨rfl, hj⟩
theorem sg_cls (x : Int32) : ∀ k, k < 4 → ((x.toUInt32 >>> (Int32.toUInt32 (nI (24 - 8 * k)) &&& Int32.toUInt32 31)).toInt32) &&& 255 = nI (sg x k) := by
  intro k hk
  rw [← (sg_eq x k).1]
  rcases (show k = 0 ∨ k = 1 ∨ k = 2 ∨ k = 3 by omega) with rfl | rfl | rfl | rfl
  · exact shr_same x _ _ 24 (by omega) (by decide) (by decide)
  · exact shr_same x _ _ 16 (by omega) (by decide) (by decide)
  · exact shr_same x _ _ 8 (by omega) (by decide) (by decide)
  · exact shr_same x _ _ 0 (by omega) (by decide) (by decide)
theorem st_sign {M : Mem} {x : Int32} (h : Rel M) : StI (fun M => fX9_sign x M) (fun M => fX10_sign x M) M := by
  obtain ⟨S, hS, hc, hr⟩ := h
  have hR := hc.1.2.2.2.2
  have h80 := hc.2.2.1.1
  have e21 := hc.2.2.1.2.1
  by_cases h76 : S.2.1.1 ≤ 76
  · refine st_gen (S := S) (S' := (S.1, (S.2.1.1 + 4, fun i => if i < S.2.1.1 then S.2.1.2 i else sg x (i - S.2.1.1)), S.2.2)) (x := nI (S.2.1.1 + 4)) hS hr ?_ (fun M1 h1 => ?_)
    · show Ok (fX9_sign x M) _
      obtain ⟨h1, h2, h3, h4, h5, h6, h7, h8⟩ := hc
      rw [e_X9_sign]
      simp (disch := omega) only [↓reduceIte, ic_t, ic_f, not_true_eq_false, not_false_eq_true, ↓lt_v, rdR, rdE, rdS, leT, leTc, leTd, leF, leFc, leFd, ltT, ltTc, ltTd, ltF, ltFc, ltFd, eqT, eqTc, eqTd, eqF, eqFc, eqFd, m1T, m1F, m1T', m1F', inb_nI, ix_nI, inb_c, ix_c, nI_1, nI_pred, nI_m1, add_nIc, add_cnI, bd_v, reduceCtorEq, eqFcc, m1e0, m1e1, m1l0, m1g0, m2l0, m2g0, Int32.reduceLT, Int32.reduceLE, Int32.reduceAdd, Int32.reduceSub, Int32.reduceMul, eq_self, Bool.false_eq_true, e21]
      have hFU : 2000 < FU := FU_big
      generalize FU = fu0 at hFU ⊢
      refine ok_loop 4 (fun fu k s => fX9_sign_19 fu x (if k = 4 then -8 else nI (24 - 8 * k)) s) (fun k s => s.1 2 1 = nI (S.2.1.1 + k) ∧ (∀ i, i < S.2.1.1 → s.1 3 i = nI (S.2.1.2 i)) ∧ (∀ j, j < k → s.1 3 (S.2.1.1 + j) = nI (sg x j)) ∧ Fr (fun a => a = 2 ∨ a = 3) M s) ?_ ?_ fu0 0 M (by omega) (by omega) ⟨e21, fun i hi => (h3.2.2 i hi).2, fun j hj => absurd hj (Nat.not_lt_zero _), fr_rfl⟩
      · intro fu k s hk hs ih
        obtain ⟨b1, b2, b3, b4⟩ := hs
        have hsg := sg_cls x k hk
        have nxt : nI (24 - 8 * k) + (-8) = (if k + 1 = 4 then -8 else nI (24 - 8 * (k + 1))) := by
          rcases (show k = 0 ∨ k = 1 ∨ k = 2 ∨ k = 3 by omega) with rfl | rfl | rfl | rfl <;> decide
        rw [if_neg (by omega), e_X9_sign_19]
        simp (disch := omega) only [↓reduceIte, ic_t, ic_f, not_true_eq_false, not_false_eq_true, ↓lt_v, rdR, rdE, rdS, leT, leTc, leTd, leF, leFc, leFd, ltT, ltTc, ltTd, ltF, ltFc, ltFd, eqT, eqTc, eqTd, eqF, eqFc, eqFd, m1T, m1F, m1T', m1F', inb_nI, ix_nI, inb_c, ix_c, nI_1, nI_pred, nI_m1, add_nIc, add_cnI, bd_v, reduceCtorEq, eqFcc, m1e0, m1e1, m1l0, m1g0, m2l0, m2g0, Int32.reduceLT, Int32.reduceLE, Int32.reduceAdd, Int32.reduceSub, Int32.reduceMul, eq_self, Bool.false_eq_true, hsg, e_X8_add, b1]
        rw [nxt]
        refine ih _ ⟨by simp (disch := omega) only [↓reduceIte, ic_t, ic_f, not_true_eq_false, not_false_eq_true, ↓lt_v, rdR, rdE, rdS, leT, leTc, leTd, leF, leFc, leFd, ltT, ltTc, ltTd, ltF, ltFc, ltFd, eqT, eqTc, eqTd, eqF, eqFc, eqFd, m1T, m1F, m1T', m1F', inb_nI, ix_nI, inb_c, ix_c, nI_1, nI_pred, nI_m1, add_nIc, add_cnI, bd_v, reduceCtorEq, eqFcc, m1e0, m1e1, m1l0, m1g0, m2l0, m2g0, Int32.reduceLT, Int32.reduceLE, Int32.reduceAdd, Int32.reduceSub, Int32.reduceMul, eq_self, Bool.false_eq_true], fun i hi => ?_, fun j hj => ?_, fr_trans b4 (by repeat (first | exact fr_rfl | refine fr_trans ?_ (fr_sI (by omega))))⟩
        · simp (disch := omega) only [↓reduceIte, ic_t, ic_f, not_true_eq_false, not_false_eq_true, ↓lt_v, rdR, rdE, rdS, leT, leTc, leTd, leF, leFc, leFd, ltT, ltTc, ltTd, ltF, ltFc, ltFd, eqT, eqTc, eqTd, eqF, eqFc, eqFd, m1T, m1F, m1T', m1F', inb_nI, ix_nI, inb_c, ix_c, nI_1, nI_pred, nI_m1, add_nIc, add_cnI, bd_v, reduceCtorEq, eqFcc, m1e0, m1e1, m1l0, m1g0, m2l0, m2g0, Int32.reduceLT, Int32.reduceLE, Int32.reduceAdd, Int32.reduceSub, Int32.reduceMul, eq_self, Bool.false_eq_true]
          exact b2 i hi
        · by_cases e : j = k
          · subst e; simp (disch := omega) only [↓reduceIte, ic_t, ic_f, not_true_eq_false, not_false_eq_true, ↓lt_v, rdR, rdE, rdS, leT, leTc, leTd, leF, leFc, leFd, ltT, ltTc, ltTd, ltF, ltFc, ltFd, eqT, eqTc, eqTd, eqF, eqFc, eqFd, m1T, m1F, m1T', m1F', inb_nI, ix_nI, inb_c, ix_c, nI_1, nI_pred, nI_m1, add_nIc, add_cnI, bd_v, reduceCtorEq, eqFcc, m1e0, m1e1, m1l0, m1g0, m2l0, m2g0, Int32.reduceLT, Int32.reduceLE, Int32.reduceAdd, Int32.reduceSub, Int32.reduceMul, eq_self, Bool.false_eq_true]
          · simp (disch := omega) only [↓reduceIte, ic_t, ic_f, not_true_eq_false, not_false_eq_true, ↓lt_v, rdR, rdE, rdS, leT, leTc, leTd, leF, leFc, leFd, ltT, ltTc, ltTd, ltF, ltFc, ltFd, eqT, eqTc, eqTd, eqF, eqFc, eqFd, m1T, m1F, m1T', m1F', inb_nI, ix_nI, inb_c, ix_c, nI_1, nI_pred, nI_m1, add_nIc, add_cnI, bd_v, reduceCtorEq, eqFcc, m1e0, m1e1, m1l0, m1g0, m2l0, m2g0, Int32.reduceLT, Int32.reduceLE, Int32.reduceAdd, Int32.reduceSub, Int32.reduceMul, eq_self, Bool.false_eq_true]
            exact b3 j (by omega)
      · intro fu s hs
        obtain ⟨b1, b2, b3, b4⟩ := hs
        have m8 : ((-8 : Int32) < 0) = True := by decide
        rw [if_pos rfl, e_X9_sign_19]
        simp (disch := omega) only [↓reduceIte, ic_t, ic_f, not_true_eq_false, not_false_eq_true, ↓lt_v, rdR, rdE, rdS, leT, leTc, leTd, leF, leFc, leFd, ltT, ltTc, ltTd, ltF, ltFc, ltFd, eqT, eqTc, eqTd, eqF, eqFc, eqFd, m1T, m1F, m1T', m1F', inb_nI, ix_nI, inb_c, ix_c, nI_1, nI_pred, nI_m1, add_nIc, add_cnI, bd_v, reduceCtorEq, eqFcc, m1e0, m1e1, m1l0, m1g0, m2l0, m2g0, Int32.reduceLT, Int32.reduceLE, Int32.reduceAdd, Int32.reduceSub, Int32.reduceMul, eq_self, Bool.false_eq_true, m8, b1]
        refine ok_some ⟨rfl, crel_all ⟨h1, h2, h3, h4, h5, h6, h7, h8⟩ ⟨rfl, rfl⟩ h1.1 (by rw [b4.2]; exact ⟨rfl, rfl⟩) ⟨b4.1 _ (by omega), b4.1 _ (by omega)⟩ (rivC_fr h1.2.1 (fun a _ _ => b4.1 a (by omega))) ⟨by show S.2.1.1 + 4 ≤ 80; omega, b1, fun i hi => ?_⟩ (rwC_fr h4 (b4.1 4 (by omega)) (by rw [b4.2])) (psC_fr h5 (fun a _ _ => b4.1 a (by omega)) (by rw [b4.2])) (kpC_fr h6 (fun a ha => b4.1 a (by omega)) (by rw [b4.2])) (hC_fr h7 (fun a ha => b4.1 a (by omega))) ⟨b4.1 115 (by omega), b4.1 137 (by omega)⟩, fun a ha => ⟨b4.1 a (by omega), by show s.2.1 a = _; rw [b4.2]⟩⟩
        have hi : i < S.2.1.1 + 4 := hi
        show (if i < S.2.1.1 then S.2.1.2 i else sg x (i - S.2.1.1)) < 256 ∧ s.1 3 i = nI (if i < S.2.1.1 then S.2.1.2 i else sg x (i - S.2.1.1))
        by_cases c : i < S.2.1.1
        · rw [if_pos c]; exact ⟨(h3.2.2 i c).1, b2 i c⟩
        · rw [if_neg c]
          have := b3 (i - S.2.1.1) (by omega)
          rw [show S.2.1.1 + (i - S.2.1.1) = i by omega] at this
          exact ⟨(sg_eq x _).2, this⟩
    · show Ok (fX10_sign x M1) _
      have hr0 := h1
      obtain ⟨h1, h2, h3, h4, h5, h6⟩ := h1
      rw [e_X10_sign]
      simp (disch := omega) only [↓reduceIte, ic_t, ic_f, not_true_eq_false, not_false_eq_true, ↓lt_v, rdR, rdE, rdS, leT, leTc, leTd, leF, leFc, leFd, ltT, ltTc, ltTd, ltF, ltFc, ltFd, eqT, eqTc, eqTd, eqF, eqFc, eqFd, m1T, m1F, m1T', m1F', inb_nI, ix_nI, inb_c, ix_c, nI_1, nI_pred, nI_m1, add_nIc, add_cnI, bd_v, reduceCtorEq, eqFcc, m1e0, m1e1, m1l0, m1g0, m2l0, m2g0, Int32.reduceLT, Int32.reduceLE, Int32.reduceAdd, Int32.reduceSub, Int32.reduceMul, eq_self, Bool.false_eq_true, h2.2.1]
      have hFU : 2000 < FU := FU_big
      generalize FU = fu0 at hFU ⊢
      refine ok_loop 4 (fun fu k s => fX10_sign_18 fu x (nI k) s) (fun k s => s.1 169 8 = nI S.2.1.1 ∧ (∀ i, i < S.2.1.1 → s.1 173 i = nI (S.2.1.2 i)) ∧ (∀ j, j < k → s.1 173 (S.2.1.1 + j) = nI (sg x j)) ∧ FrR (fun a => a = 173) (fun i => i = 0) M1 s) ?_ ?_ fu0 0 _ (by omega) (by omega) ⟨by simp (disch := omega) only [↓reduceIte, ic_t, ic_f, not_true_eq_false, not_false_eq_true, ↓lt_v, rdR, rdE, rdS, leT, leTc, leTd, leF, leFc, leFd, ltT, ltTc, ltTd, ltF, ltFc, ltFd, eqT, eqTc, eqTd, eqF, eqFc, eqFd, m1T, m1F, m1T', m1F', inb_nI, ix_nI, inb_c, ix_c, nI_1, nI_pred, nI_m1, add_nIc, add_cnI, bd_v, reduceCtorEq, eqFcc, m1e0, m1e1, m1l0, m1g0, m2l0, m2g0, Int32.reduceLT, Int32.reduceLE, Int32.reduceAdd, Int32.reduceSub, Int32.reduceMul, eq_self, Bool.false_eq_true, h2.2.1], fun i hi => by simp (disch := omega) only [↓reduceIte, ic_t, ic_f, not_true_eq_false, not_false_eq_true, ↓lt_v, rdR, rdE, rdS, leT, leTc, leTd, leF, leFc, leFd, ltT, ltTc, ltTd, ltF, ltFc, ltFd, eqT, eqTc, eqTd, eqF, eqFc, eqFd, m1T, m1F, m1T', m1F', inb_nI, ix_nI, inb_c, ix_c, nI_1, nI_pred, nI_m1, add_nIc, add_cnI, bd_v, reduceCtorEq, eqFcc, m1e0, m1e1, m1l0, m1g0, m2l0, m2g0, Int32.reduceLT, Int32.reduceLE, Int32.reduceAdd, Int32.reduceSub, Int32.reduceMul, eq_self, Bool.false_eq_true]; exact (h2.2.2 i hi).2, fun j hj => absurd hj (Nat.not_lt_zero _), frR_sI (by omega) (by omega)⟩
      · intro fu k s hk hs ih
        obtain ⟨b1, b2, b3, b4⟩ := hs
        have hsg := (sg_eq x k).1
        rw [e_X10_sign_18, hsg]
        simp (disch := omega) only [↓reduceIte, ic_t, ic_f, not_true_eq_false, not_false_eq_true, ↓lt_v, rdR, rdE, rdS, leT, leTc, leTd, leF, leFc, leFd, ltT, ltTc, ltTd, ltF, ltFc, ltFd, eqT, eqTc, eqTd, eqF, eqFc, eqFd, m1T, m1F, m1T', m1F', inb_nI, ix_nI, inb_c, ix_c, nI_1, nI_pred, nI_m1, add_nIc, add_cnI, bd_v, reduceCtorEq, eqFcc, m1e0, m1e1, m1l0, m1g0, m2l0, m2g0, Int32.reduceLT, Int32.reduceLE, Int32.reduceAdd, Int32.reduceSub, Int32.reduceMul, eq_self, Bool.false_eq_true, b1, nI_add]
        refine ih _ ⟨by simp (disch := omega) only [↓reduceIte, ic_t, ic_f, not_true_eq_false, not_false_eq_true, ↓lt_v, rdR, rdE, rdS, leT, leTc, leTd, leF, leFc, leFd, ltT, ltTc, ltTd, ltF, ltFc, ltFd, eqT, eqTc, eqTd, eqF, eqFc, eqFd, m1T, m1F, m1T', m1F', inb_nI, ix_nI, inb_c, ix_c, nI_1, nI_pred, nI_m1, add_nIc, add_cnI, bd_v, reduceCtorEq, eqFcc, m1e0, m1e1, m1l0, m1g0, m2l0, m2g0, Int32.reduceLT, Int32.reduceLE, Int32.reduceAdd, Int32.reduceSub, Int32.reduceMul, eq_self, Bool.false_eq_true, b1], fun i hi => ?_, fun j hj => ?_, frR_trans b4 (frR_sI (by omega) (by omega))⟩
        · simp (disch := omega) only [↓reduceIte, ic_t, ic_f, not_true_eq_false, not_false_eq_true, ↓lt_v, rdR, rdE, rdS, leT, leTc, leTd, leF, leFc, leFd, ltT, ltTc, ltTd, ltF, ltFc, ltFd, eqT, eqTc, eqTd, eqF, eqFc, eqFd, m1T, m1F, m1T', m1F', inb_nI, ix_nI, inb_c, ix_c, nI_1, nI_pred, nI_m1, add_nIc, add_cnI, bd_v, reduceCtorEq, eqFcc, m1e0, m1e1, m1l0, m1g0, m2l0, m2g0, Int32.reduceLT, Int32.reduceLE, Int32.reduceAdd, Int32.reduceSub, Int32.reduceMul, eq_self, Bool.false_eq_true]
          exact b2 i hi
        · by_cases e : j = k
          · subst e; simp (disch := omega) only [↓reduceIte, ic_t, ic_f, not_true_eq_false, not_false_eq_true, ↓lt_v, rdR, rdE, rdS, leT, leTc, leTd, leF, leFc, leFd, ltT, ltTc, ltTd, ltF, ltFc, ltFd, eqT, eqTc, eqTd, eqF, eqFc, eqFd, m1T, m1F, m1T', m1F', inb_nI, ix_nI, inb_c, ix_c, nI_1, nI_pred, nI_m1, add_nIc, add_cnI, bd_v, reduceCtorEq, eqFcc, m1e0, m1e1, m1l0, m1g0, m2l0, m2g0, Int32.reduceLT, Int32.reduceLE, Int32.reduceAdd, Int32.reduceSub, Int32.reduceMul, eq_self, Bool.false_eq_true]
          · simp (disch := omega) only [↓reduceIte, ic_t, ic_f, not_true_eq_false, not_false_eq_true, ↓lt_v, rdR, rdE, rdS, leT, leTc, leTd, leF, leFc, leFd, ltT, ltTc, ltTd, ltF, ltFc, ltFd, eqT, eqTc, eqTd, eqF, eqFc, eqFd, m1T, m1F, m1T', m1F', inb_nI, ix_nI, inb_c, ix_c, nI_1, nI_pred, nI_m1, add_nIc, add_cnI, bd_v, reduceCtorEq, eqFcc, m1e0, m1e1, m1l0, m1g0, m2l0, m2g0, Int32.reduceLT, Int32.reduceLE, Int32.reduceAdd, Int32.reduceSub, Int32.reduceMul, eq_self, Bool.false_eq_true]
            exact b3 j (by omega)
      · intro fu s hs
        obtain ⟨b1, b2, b3, b4⟩ := hs
        rw [e_X10_sign_18]
        simp (disch := omega) only [↓reduceIte, ic_t, ic_f, not_true_eq_false, not_false_eq_true, ↓lt_v, rdR, rdE, rdS, leT, leTc, leTd, leF, leFc, leFd, ltT, ltTc, ltTd, ltF, ltFc, ltFd, eqT, eqTc, eqTd, eqF, eqFc, eqFd, m1T, m1F, m1T', m1F', inb_nI, ix_nI, inb_c, ix_c, nI_1, nI_pred, nI_m1, add_nIc, add_cnI, bd_v, reduceCtorEq, eqFcc, m1e0, m1e1, m1l0, m1g0, m2l0, m2g0, Int32.reduceLT, Int32.reduceLE, Int32.reduceAdd, Int32.reduceSub, Int32.reduceMul, eq_self, Bool.false_eq_true, b1]
        have f1 : ∀ a, a ≠ 169 → a ≠ 173 → (sI s 169 8 (nI (S.2.1.1 + 4))).1 a = M1.1 a := fun a c1 c2 => by rw [row_n c1, b4.1 a c1 c2]
        have f2 : ∀ i, i ≠ 0 → i ≠ 8 → (sI s 169 8 (nI (S.2.1.1 + 4))).1 169 i = M1.1 169 i := fun i c1 c2 => by rw [rdS c2, b4.2.1 i c1]
        have re : (sI s 169 8 (nI (S.2.1.1 + 4))).2 = M1.2 := by show s.2 = _; rw [b4.2.2]
        refine ok_some ⟨rfl, rrel_all hr0 ⟨rfl, rfl⟩ h1.1 (f1 175 (by omega) (by omega)) (fun i hi => f2 i (by omega) (by omega)) (fun i hi => by rw [f1 171 (by omega) (by omega)]; exact h1.2.2.1 i hi) ⟨by show S.2.1.1 + 4 ≤ 80; omega, rdE rfl rfl, fun i hi => ?_⟩ (rwR_fr h3 (f2 1 (by omega) (by omega)) (by rw [re])) (psR_fr h4 (f2 28 (by omega) (by omega)) (f1 185 (by omega) (by omega))) (kpR_fr h5 (f2 4 (by omega) (by omega)) (fun a ha => f1 a (by omega) (by omega))) (hR_fr h6 (f2 45 (by omega) (by omega)) (fun a ha => f1 a (by omega) (by omega))), fun a ha => ⟨f1 a (by omega) (by omega), by show (sI s 169 8 (nI (S.2.1.1 + 4))).2.1 a = _; rw [re]⟩, by show (sI s 169 8 (nI (S.2.1.1 + 4))).2.2 = _; rw [re]⟩
        have hi : i < S.2.1.1 + 4 := hi
        show (if i < S.2.1.1 then S.2.1.2 i else sg x (i - S.2.1.1)) < 256 ∧ _ = nI (if i < S.2.1.1 then S.2.1.2 i else sg x (i - S.2.1.1))
        rw [rdR (by omega)]
        by_cases c : i < S.2.1.1
        · rw [if_pos c]; exact ⟨(h2.2.2 i c).1, b2 i c⟩
        · rw [if_neg c]
          have := b3 (i - S.2.1.1) (by omega)
          rw [show S.2.1.1 + (i - S.2.1.1) = i by omega] at this
          exact ⟨(sg_eq x _).2, this⟩
  · refine st_no (x := -1) hS hc hr ?_ (fun M1 h1 => ?_)
    · show fX9_sign x M = _
      rw [e_X9_sign]
      simp (disch := omega) only [↓reduceIte, ic_t, ic_f, not_true_eq_false, not_false_eq_true, ↓lt_v, rdR, rdE, rdS, leT, leTc, leTd, leF, leFc, leFd, ltT, ltTc, ltTd, ltF, ltFc, ltFd, eqT, eqTc, eqTd, eqF, eqFc, eqFd, m1T, m1F, m1T', m1F', inb_nI, ix_nI, inb_c, ix_c, nI_1, nI_pred, nI_m1, add_nIc, add_cnI, bd_v, reduceCtorEq, eqFcc, m1e0, m1e1, m1l0, m1g0, m2l0, m2g0, Int32.reduceLT, Int32.reduceLE, Int32.reduceAdd, Int32.reduceSub, Int32.reduceMul, eq_self, Bool.false_eq_true, e21]
    · show fX10_sign x M1 = _
      rw [e_X10_sign]
      simp (disch := omega) only [↓reduceIte, ic_t, ic_f, not_true_eq_false, not_false_eq_true, ↓lt_v, rdR, rdE, rdS, leT, leTc, leTd, leF, leFc, leFd, ltT, ltTc, ltTd, ltF, ltFc, ltFd, eqT, eqTc, eqTd, eqF, eqFc, eqFd, m1T, m1F, m1T', m1F', inb_nI, ix_nI, inb_c, ix_c, nI_1, nI_pred, nI_m1, add_nIc, add_cnI, bd_v, reduceCtorEq, eqFcc, m1e0, m1e1, m1l0, m1g0, m2l0, m2g0, Int32.reduceLT, Int32.reduceLE, Int32.reduceAdd, Int32.reduceSub, Int32.reduceMul, eq_self, Bool.false_eq_true, h1.2.1.2.1]
