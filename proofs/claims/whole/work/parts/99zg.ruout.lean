/-! PURE: a rule's text: what both make of it -/
def S5 (i : Nat) : Prop := i = 8 ∨ i = 9 ∨ i = 10 ∨ i = 11 ∨ i = 17
def stdF (th : Nat → Int32) : Int32 := th 0 - th 1 / 4
theorem ruC_std {a0 : Nat} {M : Mem} (h1 : M.1 a0 1 = nI 5) (c0 : M.1 (a0 + 1) 0 = -1) (c1 : M.1 (a0 + 1) 1 = -2) (c2 : M.1 (a0 + 1) 2 = 4) (c3 : M.1 (a0 + 1) 3 = -47) (c4 : M.1 (a0 + 1) 4 = -45) : RuC a0 stdF M := by
  have s0 : CSeg a0 (M.1 (a0 + 1)) 0 1 (fun th => th 0) := cseg_thing (by omega) (by rw [c0]; decide)
  have s1 : CSeg a0 (M.1 (a0 + 1)) 1 2 (fun th => th 1) := cseg_thing (by omega) (by rw [c1]; decide)
  have s2 : CSeg a0 (M.1 (a0 + 1)) 2 3 (fun _ => nI 4) := cseg_num (by omega) (by rw [c2]; decide)
  have s3 := cseg_bin (s := 47) (by unfold isOp; omega) s1 s2 (by rw [c3]; decide)
  have s4 := cseg_bin (s := 45) (by unfold isOp; omega) s0 s3 (by rw [c4]; decide)
  have s5 : CSeg a0 (M.1 (a0 + 1)) 0 5 stdF := cseg_val s4 (fun th => by
    have n4 : ¬ (nI 4 = (0 : Int32)) := by decide
    have o1 : opv 47 (th 1) (nI 4) = th 1 / 4 := by
      unfold opv
      rw [if_neg (by omega), if_neg (by omega), if_neg (by omega), if_pos rfl, if_neg n4]
      rfl
    have o2 : ∀ a b : Int32, opv 45 a b = a - b := fun a b => by
      unfold opv
      rw [if_neg (by omega), if_neg (by omega), if_pos rfl]
    rw [o1, o2]
    rfl)
  exact ⟨cseg_feet (by omega) h1 s5, fun _ th th' h0 h1 _ _ => by show th 0 - th 1 / 4 = th' 0 - th' 1 / 4; rw [h0, h1], fun th th' h => by show th 0 - th 1 / 4 = th' 0 - th' 1 / 4; rw [h 0 (by omega), h 1 (by omega)]⟩
theorem c_takeStandard {a0 : Nat} {M : Mem} (hR : a0 = 146 ∨ a0 = 150) : Ok (fX6_takeStandard a0 M) (fun M' => Fr (fun a => a = a0 ∨ a = a0 + 1) M M' ∧ RuC a0 stdF M') := by
  rw [e_X6_takeStandard]
  simp (disch := omega) only [↓reduceIte, ic_t, ic_f, not_true_eq_false, not_false_eq_true, ↓lt_v, rdR, rdE, rdS, leT, leTc, leTd, leF, leFc, leFd, ltT, ltTc, ltTd, ltF, ltFc, ltFd, eqT, eqTc, eqTd, eqF, eqFc, eqFd, m1T, m1F, m1T', m1F', inb_nI, ix_nI, inb_c, ix_c, nI_1, nI_pred, nI_m1, add_nIc, add_cnI, bd_v, reduceCtorEq, eqFcc, m1e0, m1e1, m1l0, m1g0, m2l0, m2g0, Int32.reduceLT, Int32.reduceLE, Int32.reduceAdd, Int32.reduceSub, Int32.reduceMul, eq_self, Bool.false_eq_true, e_X6_emit]
  refine ok_some ⟨?_, ruC_std (by simp (disch := omega) only [↓reduceIte, ic_t, ic_f, not_true_eq_false, not_false_eq_true, ↓lt_v, rdR, rdE, rdS, leT, leTc, leTd, leF, leFc, leFd, ltT, ltTc, ltTd, ltF, ltFc, ltFd, eqT, eqTc, eqTd, eqF, eqFc, eqFd, m1T, m1F, m1T', m1F', inb_nI, ix_nI, inb_c, ix_c, nI_1, nI_pred, nI_m1, add_nIc, add_cnI, bd_v, reduceCtorEq, eqFcc, m1e0, m1e1, m1l0, m1g0, m2l0, m2g0, Int32.reduceLT, Int32.reduceLE, Int32.reduceAdd, Int32.reduceSub, Int32.reduceMul, eq_self, Bool.false_eq_true]) (by simp (disch := omega) only [↓reduceIte, ic_t, ic_f, not_true_eq_false, not_false_eq_true, ↓lt_v, rdR, rdE, rdS, leT, leTc, leTd, leF, leFc, leFd, ltT, ltTc, ltTd, ltF, ltFc, ltFd, eqT, eqTc, eqTd, eqF, eqFc, eqFd, m1T, m1F, m1T', m1F', inb_nI, ix_nI, inb_c, ix_c, nI_1, nI_pred, nI_m1, add_nIc, add_cnI, bd_v, reduceCtorEq, eqFcc, m1e0, m1e1, m1l0, m1g0, m2l0, m2g0, Int32.reduceLT, Int32.reduceLE, Int32.reduceAdd, Int32.reduceSub, Int32.reduceMul, eq_self, Bool.false_eq_true]) (by simp (disch := omega) only [↓reduceIte, ic_t, ic_f, not_true_eq_false, not_false_eq_true, ↓lt_v, rdR, rdE, rdS, leT, leTc, leTd, leF, leFc, leFd, ltT, ltTc, ltTd, ltF, ltFc, ltFd, eqT, eqTc, eqTd, eqF, eqFc, eqFd, m1T, m1F, m1T', m1F', inb_nI, ix_nI, inb_c, ix_c, nI_1, nI_pred, nI_m1, add_nIc, add_cnI, bd_v, reduceCtorEq, eqFcc, m1e0, m1e1, m1l0, m1g0, m2l0, m2g0, Int32.reduceLT, Int32.reduceLE, Int32.reduceAdd, Int32.reduceSub, Int32.reduceMul, eq_self, Bool.false_eq_true]) (by simp (disch := omega) only [↓reduceIte, ic_t, ic_f, not_true_eq_false, not_false_eq_true, ↓lt_v, rdR, rdE, rdS, leT, leTc, leTd, leF, leFc, leFd, ltT, ltTc, ltTd, ltF, ltFc, ltFd, eqT, eqTc, eqTd, eqF, eqFc, eqFd, m1T, m1F, m1T', m1F', inb_nI, ix_nI, inb_c, ix_c, nI_1, nI_pred, nI_m1, add_nIc, add_cnI, bd_v, reduceCtorEq, eqFcc, m1e0, m1e1, m1l0, m1g0, m2l0, m2g0, Int32.reduceLT, Int32.reduceLE, Int32.reduceAdd, Int32.reduceSub, Int32.reduceMul, eq_self, Bool.false_eq_true]) (by simp (disch := omega) only [↓reduceIte, ic_t, ic_f, not_true_eq_false, not_false_eq_true, ↓lt_v, rdR, rdE, rdS, leT, leTc, leTd, leF, leFc, leFd, ltT, ltTc, ltTd, ltF, ltFc, ltFd, eqT, eqTc, eqTd, eqF, eqFc, eqFd, m1T, m1F, m1T', m1F', inb_nI, ix_nI, inb_c, ix_c, nI_1, nI_pred, nI_m1, add_nIc, add_cnI, bd_v, reduceCtorEq, eqFcc, m1e0, m1e1, m1l0, m1g0, m2l0, m2g0, Int32.reduceLT, Int32.reduceLE, Int32.reduceAdd, Int32.reduceSub, Int32.reduceMul, eq_self, Bool.false_eq_true]) (by simp (disch := omega) only [↓reduceIte, ic_t, ic_f, not_true_eq_false, not_false_eq_true, ↓lt_v, rdR, rdE, rdS, leT, leTc, leTd, leF, leFc, leFd, ltT, ltTc, ltTd, ltF, ltFc, ltFd, eqT, eqTc, eqTd, eqF, eqFc, eqFd, m1T, m1F, m1T', m1F', inb_nI, ix_nI, inb_c, ix_c, nI_1, nI_pred, nI_m1, add_nIc, add_cnI, bd_v, reduceCtorEq, eqFcc, m1e0, m1e1, m1l0, m1g0, m2l0, m2g0, Int32.reduceLT, Int32.reduceLE, Int32.reduceAdd, Int32.reduceSub, Int32.reduceMul, eq_self, Bool.false_eq_true])⟩
  repeat (first | exact fr_rfl | refine fr_trans ?_ (fr_sI (by omega)))
theorem ru_out {a0 L : Nat} {f : Nat → Nat} (hR : a0 = 146 ∨ a0 = 150) (hL : L ≤ 80) (hf : ∀ i, i < L → f i < 256) : ∃ (ok : Bool) (e : Nat) (F : (Nat → Int32) → Int32), e ≤ 40 ∧
    (∀ M : Mem, TxC L f M → Ok (fX6_compile a0 M) (fun q => q.1 = (if ok = true then -1 else nI e) ∧ Fr (fun a => a = a0 ∨ a = a0 + 1) M q.2 ∧ (ok = true → RuC a0 F q.2))) ∧
    (∀ s : Mem, TxR L f s → Ok (fX10_readsRule s) (fun q => q.1 = (if ok = true then 0 else -1 - nI e) ∧ FrR (fun a => a = 176) S5 s q.2 ∧ q.2.1 169 8 = nI 0 ∧ (ok = true → ∃ rl, rl ≤ 80 ∧ q.2.1 169 17 = nI rl ∧ ∀ M' : Mem, M'.1 169 16 = nI rl → (∀ k, k < rl → M'.1 175 k = q.2.1 176 k) → RuR F M'))) := by
  have beg : ∀ (s : Mem) (Q : Int32 × Mem → Prop), TxR L f s → (∀ s1, AtR 0 (min L 40) f s1 → s1.1 169 8 = nI 0 → s1.1 169 11 = nI 0 → s1.1 169 17 = nI 0 → FrR (fun a => a = 176) S5 s s1 → Ok (ic (nI L = 0) (fX10_readsRule_24 (nI L) s1) ((fX10_readsRank 21 0 s1).bind fun q6 => ic (q6.1 = 0) (fX10_readsRule_29 (nI L) 0 q6.2) (fX10_readsRule_24 (nI L) q6.2))) Q) → Ok (fX10_readsRule s) Q := by
    intro s Q hT h
    rw [e_X10_readsRule]
    refine ok_call (r_begins (most := 40) hT (by omega)) (fun q g => ?_)
    obtain ⟨g1, g2, g3, g4, g5⟩ := g
    rw [lt_v, g1]
    exact h _ (atR_fr g2 (by simp (disch := omega) only [↓reduceIte, ic_t, ic_f, not_true_eq_false, not_false_eq_true, ↓lt_v, rdR, rdE, rdS, leT, leTc, leTd, leF, leFc, leFd, ltT, ltTc, ltTd, ltF, ltFc, ltFd, eqT, eqTc, eqTd, eqF, eqFc, eqFd, m1T, m1F, m1T', m1F', inb_nI, ix_nI, inb_c, ix_c, nI_1, nI_pred, nI_m1, add_nIc, add_cnI, bd_v, reduceCtorEq, eqFcc, m1e0, m1e1, m1l0, m1g0, m2l0, m2g0, Int32.reduceLT, Int32.reduceLE, Int32.reduceAdd, Int32.reduceSub, Int32.reduceMul, eq_self, Bool.false_eq_true]) (by simp (disch := omega) only [↓reduceIte, ic_t, ic_f, not_true_eq_false, not_false_eq_true, ↓lt_v, rdR, rdE, rdS, leT, leTc, leTd, leF, leFc, leFd, ltT, ltTc, ltTd, ltF, ltFc, ltFd, eqT, eqTc, eqTd, eqF, eqFc, eqFd, m1T, m1F, m1T', m1F', inb_nI, ix_nI, inb_c, ix_c, nI_1, nI_pred, nI_m1, add_nIc, add_cnI, bd_v, reduceCtorEq, eqFcc, m1e0, m1e1, m1l0, m1g0, m2l0, m2g0, Int32.reduceLT, Int32.reduceLE, Int32.reduceAdd, Int32.reduceSub, Int32.reduceMul, eq_self, Bool.false_eq_true]) (by simp (disch := omega) only [row_n])) (by simp (disch := omega) only [↓reduceIte, ic_t, ic_f, not_true_eq_false, not_false_eq_true, ↓lt_v, rdR, rdE, rdS, leT, leTc, leTd, leF, leFc, leFd, ltT, ltTc, ltTd, ltF, ltFc, ltFd, eqT, eqTc, eqTd, eqF, eqFc, eqFd, m1T, m1F, m1T', m1F', inb_nI, ix_nI, inb_c, ix_c, nI_1, nI_pred, nI_m1, add_nIc, add_cnI, bd_v, reduceCtorEq, eqFcc, m1e0, m1e1, m1l0, m1g0, m2l0, m2g0, Int32.reduceLT, Int32.reduceLE, Int32.reduceAdd, Int32.reduceSub, Int32.reduceMul, eq_self, Bool.false_eq_true]; exact g3) (by simp (disch := omega) only [↓reduceIte, ic_t, ic_f, not_true_eq_false, not_false_eq_true, ↓lt_v, rdR, rdE, rdS, leT, leTc, leTd, leF, leFc, leFd, ltT, ltTc, ltTd, ltF, ltFc, ltFd, eqT, eqTc, eqTd, eqF, eqFc, eqFd, m1T, m1F, m1T', m1F', inb_nI, ix_nI, inb_c, ix_c, nI_1, nI_pred, nI_m1, add_nIc, add_cnI, bd_v, reduceCtorEq, eqFcc, m1e0, m1e1, m1l0, m1g0, m2l0, m2g0, Int32.reduceLT, Int32.reduceLE, Int32.reduceAdd, Int32.reduceSub, Int32.reduceMul, eq_self, Bool.false_eq_true]; exact g4) (by simp (disch := omega) only [↓reduceIte, ic_t, ic_f, not_true_eq_false, not_false_eq_true, ↓lt_v, rdR, rdE, rdS, leT, leTc, leTd, leF, leFc, leFd, ltT, ltTc, ltTd, ltF, ltFc, ltFd, eqT, eqTc, eqTd, eqF, eqFc, eqFd, m1T, m1F, m1T', m1F', inb_nI, ix_nI, inb_c, ix_c, nI_1, nI_pred, nI_m1, add_nIc, add_cnI, bd_v, reduceCtorEq, eqFcc, m1e0, m1e1, m1l0, m1g0, m2l0, m2g0, Int32.reduceLT, Int32.reduceLE, Int32.reduceAdd, Int32.reduceSub, Int32.reduceMul, eq_self, Bool.false_eq_true]) (frR_trans (frR_sub g5 (fun a _ ha => ha.elim) (fun i hi => by unfold S5; omega)) (frR_sI (by omega) (by unfold S5; omega)))
  by_cases c0 : L = 0
  · subst c0
    refine ⟨true, 0, stdF, by omega, fun M hT => ?_, fun s hT => beg s _ hT (fun s1 k1 k2 k3 k4 k5 => ?_)⟩
    · have t := hT.2.1
      rw [e_X6_compile, ic_pos (show M.1 2 1 = 0 by rw [t]; rfl)]
      refine ok_call (c_takeStandard hR) (fun M' g => ok_some ⟨rfl, g.1, fun _ => g.2⟩)
    · rw [ic_pos (show nI 0 = 0 from rfl), e_X10_readsRule_24, e_X10_readsRule_29]
      have hfa := r_faultOf (L := 0) (most := 40) (z := true) k1 (by omega) (by omega)
      rw [show min 0 40 = 0 from rfl, if_neg (by omega), if_pos (by decide)] at hfa
      have hfa : fX10_faultOf (nI 0) 40 1 s1 = some (0, s1) := hfa
      rw [hfa, bd_v]
      exact ok_some ⟨rfl, k5, k2, fun _ => ⟨0, by omega, k4, fun M' m1 _ => ruR_std m1⟩⟩
  · obtain ⟨ok, e, V, b', i1, i2, i3, iC, iR⟩ := p_all (L := L) (f := f) hR hf 4 0 (by omega) 0 (Nat.zero_le _)
    have cls : ∀ (M : Mem) (Q : Int32 × Mem → Prop), TxC L f M → (∀ (r : Int32 × Mem) (cl' : Nat) (bb : Bool), r.1 = bI ok → Fr (fun a => a = a0 ∨ a = a0 + 1) M r.2 → CSt a0 L f e cl' bb r.2 → (ok = true → bb = b' ∧ cl' ≤ e ∧ CSeg a0 (r.2.1 (a0 + 1)) 0 cl' V) → Ok (ic (r.1 = 0) (some (r.2.1 a0 6, r.2)) (ic ((r.2.1 a0 6) < (r.2.1 2 1)) (some (r.2.1 a0 6, r.2)) (some (-1, r.2)))) Q) → Ok (fX6_compile a0 M) Q := by
      intro M Q hT h
      have t := hT.2.1
      rw [e_X6_compile, ic_neg (show ¬ M.1 2 1 = 0 by rw [t, show (0 : Int32) = nI 0 from rfl, nI_eq (by omega) (by omega)]; exact c0), lt_v, lt_v, lt_v]
      have hc : CSt a0 L f 0 0 false (sI (sI (sI M a0 1 0) a0 2 0) a0 6 0) := ⟨by simp (disch := omega) only [↓reduceIte, ic_t, ic_f, not_true_eq_false, not_false_eq_true, ↓lt_v, rdR, rdE, rdS, leT, leTc, leTd, leF, leFc, leFd, ltT, ltTc, ltTd, ltF, ltFc, ltFd, eqT, eqTc, eqTd, eqF, eqFc, eqFd, m1T, m1F, m1T', m1F', inb_nI, ix_nI, inb_c, ix_c, nI_1, nI_pred, nI_m1, add_nIc, add_cnI, bd_v, reduceCtorEq, eqFcc, m1e0, m1e1, m1l0, m1g0, m2l0, m2g0, Int32.reduceLT, Int32.reduceLE, Int32.reduceAdd, Int32.reduceSub, Int32.reduceMul, eq_self, Bool.false_eq_true], by simp (disch := omega) only [↓reduceIte, ic_t, ic_f, not_true_eq_false, not_false_eq_true, ↓lt_v, rdR, rdE, rdS, leT, leTc, leTd, leF, leFc, leFd, ltT, ltTc, ltTd, ltF, ltFc, ltFd, eqT, eqTc, eqTd, eqF, eqFc, eqFd, m1T, m1F, m1T', m1F', inb_nI, ix_nI, inb_c, ix_c, nI_1, nI_pred, nI_m1, add_nIc, add_cnI, bd_v, reduceCtorEq, eqFcc, m1e0, m1e1, m1l0, m1g0, m2l0, m2g0, Int32.reduceLT, Int32.reduceLE, Int32.reduceAdd, Int32.reduceSub, Int32.reduceMul, eq_self, Bool.false_eq_true], by simp (disch := omega) only [↓reduceIte, ic_t, ic_f, not_true_eq_false, not_false_eq_true, ↓lt_v, rdR, rdE, rdS, leT, leTc, leTd, leF, leFc, leFd, ltT, ltTc, ltTd, ltF, ltFc, ltFd, eqT, eqTc, eqTd, eqF, eqFc, eqFd, m1T, m1F, m1T', m1F', inb_nI, ix_nI, inb_c, ix_c, nI_1, nI_pred, nI_m1, add_nIc, add_cnI, bd_v, reduceCtorEq, eqFcc, m1e0, m1e1, m1l0, m1g0, m2l0, m2g0, Int32.reduceLT, Int32.reduceLE, Int32.reduceAdd, Int32.reduceSub, Int32.reduceMul, eq_self, Bool.false_eq_true]; rfl, by omega, txC_fr hT (by simp (disch := omega) only [row_n]) (by simp (disch := omega) only [row_n])⟩
      refine ok_call (iC _ 0 false hc) (fun r g => ?_)
      obtain ⟨g1, g2, cl', bb, g3, g4⟩ := g
      refine h r cl' bb g1 (fr_trans (fr_trans (fr_trans (fr_sI (Or.inl rfl)) (fr_sI (Or.inl rfl))) (fr_sI (Or.inl rfl))) g2) g3 (fun hok => ?_)
      obtain ⟨k1, k2, k3, k4⟩ := g4 hok (Nat.le_refl _)
      exact ⟨by rw [k1, Bool.false_or], by omega, k4⟩
    have ref : ∀ (s : Mem) (Q : Int32 × Mem → Prop), TxR L f s → (∀ (s1 : Mem) (rl : Nat), AtR e (min L 40) f s1 → s1.1 169 8 = nI 0 → rl ≤ 80 → s1.1 169 17 = nI rl → (ok = true → RSeg (s1.1 176) 0 rl V) → FrR (fun a => a = 176) S5 s s1 → Ok (fX10_readsRule_29 (nI L) (bI ok) s1) Q) → Ok (fX10_readsRule s) Q := by
      intro s Q hT h
      refine beg s _ hT (fun s1 k1 k2 k3 k4 k5 => ?_)
      rw [ic_neg (show ¬ nI L = 0 by rw [show (0 : Int32) = nI 0 from rfl, nI_eq (by omega) (by omega)]; exact c0)]
      refine ok_call (iR s1 0 ⟨k1, k4, k3, Nat.le_refl _⟩) (fun r g => ?_)
      obtain ⟨g1, g2, rl, ne, g3, g4, g5, g6, g7, g8⟩ := g
      have fin := h r.2 rl g3 (by rw [g2.2.1 8 (by unfold S3; omega)]; exact k2) (by omega) g4 (fun hok => (g8 hok).2) (frR_trans k5 (frR_sub g2 (fun a _ ha => ha) (fun i hi => by unfold S3 at hi; unfold S5; omega)))
      rw [g1]
      cases hok : ok
      · rw [ic_pos (show bI false = 0 from rfl)]
        rw [hok] at fin
        exact fin
      · rw [ic_neg (show ¬ bI true = 0 from one_ne), e_X10_readsRule_24]
        rw [hok] at fin
        exact fin
    have flt : ∀ s1, AtR e (min L 40) f s1 → fX10_faultOf (nI L) 40 (bI ok) s1 = some (if ok = true ∧ L ≤ e then 0 else -1 - nI e, s1) := by
      intro s1 hA
      have hfa := r_faultOf (L := L) (most := 40) (z := ok) hA hL (by omega)
      have hfa : fX10_faultOf (nI L) 40 (bI ok) s1 = _ := hfa
      rw [hfa]
      congr 2
      cases hok : ok
      · rw [Bool.false_and, if_neg (show ¬ (false = true ∧ L ≤ e) from fun q => by cases q.1)]
        by_cases c : 40 < L ∧ (false = true ∨ 40 ≤ e)
        · rw [if_pos c]
          have : e = 40 := by rcases c.2 with q | q; cases q; omega
          rw [this]
        · rw [if_neg c, if_neg (by decide)]
      · rw [Bool.true_and]
        by_cases c : e = min L 40
        · rw [decide_eq_true c]
          by_cases d : 40 < L
          · rw [if_pos ⟨d, Or.inl rfl⟩, if_neg (by omega), show e = 40 by omega]
          · rw [if_neg (fun q => d q.1), if_pos rfl, if_pos ⟨rfl, by omega⟩]
        · rw [decide_eq_false c, if_neg (fun q => by rcases q.2 with w | w; cases w; omega), if_neg (by decide), if_neg (by omega)]
    by_cases good : ok = true ∧ L ≤ e
    · obtain ⟨v1, v2⟩ := i3 good.1
      refine ⟨true, e, V, by omega, fun M hT => cls M _ hT (fun r cl' bb g1 g2 g3 g4 => ?_), fun s hT => ref s _ hT (fun s1 rl g1 g2 g3 g4 g5 g6 => ?_)⟩
      · obtain ⟨k1, k2, k3⟩ := g4 good.1
        obtain ⟨h1, h2, h3, h4, h5⟩ := g3
        have t := h5.2.1
        rw [g1, good.1, ic_neg (show ¬ bI true = 0 from one_ne), h1, t, ic_neg (show ¬ nI e < nI L by rw [lt_nI (by omega) (by omega)]; omega)]
        refine ok_some ⟨rfl, g2, fun _ => ⟨cseg_feet h4 h2 k3, fun hz => ?_, v1.2⟩⟩
        refine v1.1 ?_
        rw [h3, k1] at hz
        cases hb : b'
        · rfl
        · rw [hb] at hz; exact absurd hz one_ne
      · rw [e_X10_readsRule_29, flt s1 g1, if_pos good, bd_v]
        refine ok_some ⟨rfl, g6, g2, fun _ => ⟨rl, g3, g4, fun M' m1 m2 => ⟨⟨rl, g3, m1, fun N n1 n2 => rseg_ruled g3 n2 (rseg_congr (g5 good.1) (fun k _ hk => by rw [n1 k hk, m2 k hk])) N rfl rfl⟩, v1.2⟩⟩⟩
    · refine ⟨false, e, stdF, by omega, fun M hT => cls M _ hT (fun r cl' bb g1 g2 g3 g4 => ?_), fun s hT => ref s _ hT (fun s1 rl g1 g2 g3 g4 g5 g6 => ?_)⟩
      · obtain ⟨h1, h2, h3, h4, h5⟩ := g3
        have t := h5.2.1
        rw [g1, h1, t]
        cases hok : ok
        · rw [ic_pos (show bI false = 0 from rfl)]
          exact ok_some ⟨rfl, g2, fun q => by cases q⟩
        · have : e < L := by
            by_cases c : e < L
            · exact c
            · exact absurd ⟨hok, by omega⟩ good
          rw [ic_neg (show ¬ bI true = 0 from one_ne), ic_pos (show nI e < nI L by rw [lt_nI (by omega) (by omega)]; exact this)]
          exact ok_some ⟨rfl, g2, fun q => by cases q⟩
      · rw [e_X10_readsRule_29, flt s1 g1, if_neg good, bd_v]
        exact ok_some ⟨rfl, g6, g2, fun q => by cases q⟩
