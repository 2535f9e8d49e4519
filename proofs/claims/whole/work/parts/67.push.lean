/-! PURE: what can be undone -/
def pushU (P : Nat) (us : Nat → VV) (v : VV) : Nat × (Nat → VV) := if P < 15 then (P + 1, up1 us P v) else (15, fun j => if j < 14 then us (j + 1) else v)
theorem rR_e {M : Mem} {a i b j : Nat} {v : Nat} (h : b = a) (h' : j = i) : (sR M a i v).2.2 b j = v := by subst h; subst h'; simp [sR, up2]
theorem rR_s {M : Mem} {a i b j : Nat} {v : Nat} (h : j ≠ i) : (sR M a i v).2.2 b j = M.2.2 b j := by
  unfold sR up2
  by_cases e : b = a
  · subst e; simp [h]
  · simp [e]
theorem rR_r {M : Mem} {a i b j : Nat} {v : Nat} (h : b ≠ a) : (sR M a i v).2.2 b j = M.2.2 b j := by simp [sR, up2, h]
theorem sR_1 {M : Mem} {a i : Nat} {v : Nat} : (sR M a i v).1 = M.1 := rfl
theorem sR_21 {M : Mem} {a i : Nat} {v : Nat} : (sR M a i v).2.1 = M.2.1 := rfl
theorem sI_22 {M : Mem} {a i : Nat} {v : Int32} : (sI M a i v).2.2 = M.2.2 := rfl
/-- what push leaves alone -/
def KP (M M' : Mem) : Prop := (∀ a, ¬ (26 ≤ a ∧ a ≤ 102) → M'.1 a = M.1 a) ∧ M'.2.1 = M.2.1 ∧ (∀ a i, a ≠ 27 → M'.2.2 a i = M.2.2 a i)
theorem c_drop {M : Mem} : Ok (fX2_dropOldest M) (fun M' => (∀ a, a ≠ 26 → M'.1 a = M.1 a) ∧ M'.1 26 1 = nI 14 ∧ M'.2.1 = M.2.1 ∧ (∀ a i, a ≠ 27 → M'.2.2 a i = M.2.2 a i) ∧ (∀ i, i < 14 → M'.2.2 27 i = M.2.2 27 (i + 1)) ∧ M'.2.2 27 14 = M.2.2 27 0) := by
  rw [e_X2_dropOldest]
  simp (disch := omega) only [↓reduceIte, ic_t, ic_f, not_true_eq_false, not_false_eq_true, ↓lt_v, rdR, rdE, rdS, leT, leTc, leTd, leF, leFc, leFd, ltT, ltTc, ltTd, ltF, ltFc, ltFd, eqT, eqTc, eqTd, eqF, eqFc, eqFd, m1T, m1F, m1T', m1F', inb_nI, ix_nI, inb_c, ix_c, nI_1, nI_pred, nI_m1, add_nIc, add_cnI, bd_v, reduceCtorEq, eqFcc, m1e0, m1e1, m1l0, m1g0, m2l0, m2g0, Int32.reduceLT, Int32.reduceLE, Int32.reduceAdd, Int32.reduceSub, Int32.reduceMul, eq_self, Bool.false_eq_true]
  have hFU : 2000 < FU := FU_big
  generalize FU = fu0 at hFU ⊢
  refine ok_loop 14 (fun fu k s => fX2_dropOldest_9 fu (M.2.2 27 0) (nI k) s) (fun k s => s.1 = M.1 ∧ s.2.1 = M.2.1 ∧ (∀ a i, a ≠ 27 → s.2.2 a i = M.2.2 a i) ∧ (∀ i, s.2.2 27 i = if i < k then M.2.2 27 (i + 1) else M.2.2 27 i)) ?_ ?_ fu0 0 M (by omega) (by omega) ⟨rfl, rfl, fun _ _ _ => rfl, fun i => by rw [if_neg (by omega)]⟩
  · intro fu k s hk hs ih
    obtain ⟨b1, b2, b3, b4⟩ := hs
    rw [e_X2_dropOldest_9]
    simp (disch := omega) only [↓reduceIte, ic_t, ic_f, not_true_eq_false, not_false_eq_true, ↓lt_v, rdR, rdE, rdS, leT, leTc, leTd, leF, leFc, leFd, ltT, ltTc, ltTd, ltF, ltFc, ltFd, eqT, eqTc, eqTd, eqF, eqFc, eqFd, m1T, m1F, m1T', m1F', inb_nI, ix_nI, inb_c, ix_c, nI_1, nI_pred, nI_m1, add_nIc, add_cnI, bd_v, reduceCtorEq, eqFcc, m1e0, m1e1, m1l0, m1g0, m2l0, m2g0, Int32.reduceLT, Int32.reduceLE, Int32.reduceAdd, Int32.reduceSub, Int32.reduceMul, eq_self, Bool.false_eq_true]
    refine ih _ ⟨b1, b2, fun a i ha => by rw [rR_r ha]; exact b3 a i ha, fun i => ?_⟩
    by_cases e : i = k
    · rw [rR_e rfl e, b4, if_neg (by omega), if_pos (by omega), e]
    · rw [rR_s e, b4]
      by_cases c : i < k
      · rw [if_pos c, if_pos (by omega)]
      · rw [if_neg c, if_neg (by omega)]
  · intro fu s hs
    obtain ⟨b1, b2, b3, b4⟩ := hs
    rw [e_X2_dropOldest_9]
    simp (disch := omega) only [↓reduceIte, ic_t, ic_f, not_true_eq_false, not_false_eq_true, ↓lt_v, rdR, rdE, rdS, leT, leTc, leTd, leF, leFc, leFd, ltT, ltTc, ltTd, ltF, ltFc, ltFd, eqT, eqTc, eqTd, eqF, eqFc, eqFd, m1T, m1F, m1T', m1F', inb_nI, ix_nI, inb_c, ix_c, nI_1, nI_pred, nI_m1, add_nIc, add_cnI, bd_v, reduceCtorEq, eqFcc, m1e0, m1e1, m1l0, m1g0, m2l0, m2g0, Int32.reduceLT, Int32.reduceLE, Int32.reduceAdd, Int32.reduceSub, Int32.reduceMul, eq_self, Bool.false_eq_true]
    refine ok_some ⟨fun a ha => ?_, ?_, b2, fun a i ha => ?_, fun i hi => ?_, ?_⟩
    · rw [row_n ha, sR_1, b1]
    · simp (disch := omega) only [↓reduceIte, ic_t, ic_f, not_true_eq_false, not_false_eq_true, ↓lt_v, rdR, rdE, rdS, leT, leTc, leTd, leF, leFc, leFd, ltT, ltTc, ltTd, ltF, ltFc, ltFd, eqT, eqTc, eqTd, eqF, eqFc, eqFd, m1T, m1F, m1T', m1F', inb_nI, ix_nI, inb_c, ix_c, nI_1, nI_pred, nI_m1, add_nIc, add_cnI, bd_v, reduceCtorEq, eqFcc, m1e0, m1e1, m1l0, m1g0, m2l0, m2g0, Int32.reduceLT, Int32.reduceLE, Int32.reduceAdd, Int32.reduceSub, Int32.reduceMul, eq_self, Bool.false_eq_true]
    · rw [sI_22, rR_r ha]; exact b3 a i ha
    · rw [sI_22, rR_s (by omega), b4, if_pos hi]
    · rw [sI_22, rR_e rfl rfl]
theorem c_push {M : Mem} {n P src : Nat} {us : Nat → VV} {v : VV} (hn : n ≤ 6) (hp : PsC n P us M) (hv : RvC src n v M) (hs : src = 6 ∨ src = 11) :
    Ok (fX2_push src M) (fun M' => PsC n (pushU P us v).1 (pushU P us v).2 M' ∧ KP M M') := by
  obtain ⟨p0, p1, p2, p3, p4⟩ := hp
  have tail : ∀ (s : Mem) (Q : Nat) (ws : Nat → VV), Q < 15 → PsC n Q ws s → RvC src n v s → Ok (fX2_push_13 src s) (fun M' => PsC n (Q + 1) (up1 ws Q v) M' ∧ KP s M') := by
    intro s Q ws hQ hp hv
    obtain ⟨q0, q1, q2, q3, q4⟩ := hp
    obtain ⟨c, hc, ec⟩ := q2 Q hQ
    rw [e_X2_push_13]
    simp (disch := omega) only [↓reduceIte, ic_t, ic_f, not_true_eq_false, not_false_eq_true, ↓lt_v, rdR, rdE, rdS, leT, leTc, leTd, leF, leFc, leFd, ltT, ltTc, ltTd, ltF, ltFc, ltFd, eqT, eqTc, eqTd, eqF, eqFc, eqFd, m1T, m1F, m1T', m1F', inb_nI, ix_nI, inb_c, ix_c, nI_1, nI_pred, nI_m1, add_nIc, add_cnI, bd_v, reduceCtorEq, eqFcc, m1e0, m1e1, m1l0, m1g0, m2l0, m2g0, Int32.reduceLT, Int32.reduceLE, Int32.reduceAdd, Int32.reduceSub, Int32.reduceMul, eq_self, Bool.false_eq_true, q1]
    refine ok_call (c_copy hn (by omega) hv) (fun M1 g => ?_)
    obtain ⟨g1, g2⟩ := g
    have e26 : M1.1 26 1 = nI Q := by rw [g2.1 26 (by omega)]; exact q1
    have er : M1.2.2 = s.2.2 := by rw [g2.2]
    simp (disch := omega) only [↓reduceIte, ic_t, ic_f, not_true_eq_false, not_false_eq_true, ↓lt_v, rdR, rdE, rdS, leT, leTc, leTd, leF, leFc, leFd, ltT, ltTc, ltTd, ltF, ltFc, ltFd, eqT, eqTc, eqTd, eqF, eqFc, eqFd, m1T, m1F, m1T', m1F', inb_nI, ix_nI, inb_c, ix_c, nI_1, nI_pred, nI_m1, add_nIc, add_cnI, bd_v, reduceCtorEq, eqFcc, m1e0, m1e1, m1l0, m1g0, m2l0, m2g0, Int32.reduceLT, Int32.reduceLE, Int32.reduceAdd, Int32.reduceSub, Int32.reduceMul, eq_self, Bool.false_eq_true, e26]
    refine ok_some ⟨⟨by omega, by simp (disch := omega) only [↓reduceIte, ic_t, ic_f, not_true_eq_false, not_false_eq_true, ↓lt_v, rdR, rdE, rdS, leT, leTc, leTd, leF, leFc, leFd, ltT, ltTc, ltTd, ltF, ltFc, ltFd, eqT, eqTc, eqTd, eqF, eqFc, eqFd, m1T, m1F, m1T', m1F', inb_nI, ix_nI, inb_c, ix_c, nI_1, nI_pred, nI_m1, add_nIc, add_cnI, bd_v, reduceCtorEq, eqFcc, m1e0, m1e1, m1l0, m1g0, m2l0, m2g0, Int32.reduceLT, Int32.reduceLE, Int32.reduceAdd, Int32.reduceSub, Int32.reduceMul, eq_self, Bool.false_eq_true], fun i hi => ?_, fun i j hi hj he => ?_, fun j hj => ?_⟩, fun a ha => ?_, ?_, fun a i ha => ?_⟩
    · rw [sI_22, er]; exact q2 i hi
    · rw [sI_22, er] at he; exact q3 i j hi hj he
    · rw [sI_22, er]
      by_cases e : j = Q
      · subst e
        rw [up1_e rfl]
        exact rivC_fr g1 (fun a h1 h2 => row_n (by omega))
      · rw [up1_n e]
        obtain ⟨d, hd, ed⟩ := q2 j (by omega)
        have hne : s.2.2 27 j ≠ s.2.2 27 Q := fun q => e (q3 j Q (by omega) hQ q)
        exact rivC_fr (q4 j (by omega)) (fun a h1 h2 => by rw [row_n (by omega), g2.1 a (by omega)])
    · rw [row_n (by omega), g2.1 a (by omega)]
    · show M1.2.1 = _
      rw [g2.2]
    · rw [sI_22, er]
  rw [e_X2_push]
  unfold pushU
  by_cases h : P < 15
  · simp (disch := omega) only [↓reduceIte, ic_t, ic_f, not_true_eq_false, not_false_eq_true, ↓lt_v, rdR, rdE, rdS, leT, leTc, leTd, leF, leFc, leFd, ltT, ltTc, ltTd, ltF, ltFc, ltFd, eqT, eqTc, eqTd, eqF, eqFc, eqFd, m1T, m1F, m1T', m1F', inb_nI, ix_nI, inb_c, ix_c, nI_1, nI_pred, nI_m1, add_nIc, add_cnI, bd_v, reduceCtorEq, eqFcc, m1e0, m1e1, m1l0, m1g0, m2l0, m2g0, Int32.reduceLT, Int32.reduceLE, Int32.reduceAdd, Int32.reduceSub, Int32.reduceMul, eq_self, Bool.false_eq_true, p1]
    rw [if_pos h]
    exact tail M P us h ⟨p0, p1, p2, p3, p4⟩ hv
  · simp (disch := omega) only [↓reduceIte, ic_t, ic_f, not_true_eq_false, not_false_eq_true, ↓lt_v, rdR, rdE, rdS, leT, leTc, leTd, leF, leFc, leFd, ltT, ltTc, ltTd, ltF, ltFc, ltFd, eqT, eqTc, eqTd, eqF, eqFc, eqFd, m1T, m1F, m1T', m1F', inb_nI, ix_nI, inb_c, ix_c, nI_1, nI_pred, nI_m1, add_nIc, add_cnI, bd_v, reduceCtorEq, eqFcc, m1e0, m1e1, m1l0, m1g0, m2l0, m2g0, Int32.reduceLT, Int32.reduceLE, Int32.reduceAdd, Int32.reduceSub, Int32.reduceMul, eq_self, Bool.false_eq_true, p1]
    rw [if_neg h]
    refine ok_call c_drop (fun M1 g => ?_)
    obtain ⟨g1, g2, g3, g4, g5, g6⟩ := g
    have hP : P = 15 := by omega
    have new : ∀ i, i < 15 → M1.2.2 27 i = M.2.2 27 (if i < 14 then i + 1 else 0) := by
      intro i hi
      by_cases c : i < 14
      · rw [if_pos c]; exact g5 i c
      · rw [if_neg c, show i = 14 by omega]; exact g6
    have hps : PsC n 14 (fun j => us (j + 1)) M1 := by
      refine ⟨by omega, g2, fun i hi => ?_, fun i j hi hj he => ?_, fun j hj => ?_⟩
      · rw [new i hi]; exact p2 _ (by split <;> omega)
      · rw [new i hi, new j hj] at he
        have := p3 _ _ (by split <;> omega) (by split <;> omega) he
        split at this <;> split at this <;> omega
      · rw [g5 j hj]
        obtain ⟨c, hc, ec⟩ := p2 (j + 1) (by omega)
        exact rivC_fr (p4 (j + 1) (by omega)) (fun a h1 h2 => g1 a (by omega))
    refine ok_mono (tail M1 14 (fun j => us (j + 1)) (by omega) hps (rivC_fr hv (fun a h1 h2 => g1 a (by omega)))) (fun M2 q => ⟨?_, fun a ha => ?_, ?_, fun a i ha => ?_⟩)
    · have e : (fun j => if j < 14 then us (j + 1) else v) = up1 (fun j => us (j + 1)) 14 v ∨ True := Or.inr trivial
      refine ⟨by omega, q.1.2.1, q.1.2.2.1, q.1.2.2.2.1, fun j hj => ?_⟩
      have := q.1.2.2.2.2 j (by omega)
      by_cases c : j < 14
      · rw [up1_n (by omega)] at this
        show RvC _ n (if j < 14 then us (j + 1) else v) M2
        rw [if_pos c]; exact this
      · have hj : j < 15 := hj
        rw [up1_e (show j = 14 by omega)] at this
        show RvC _ n (if j < 14 then us (j + 1) else v) M2
        rw [if_neg c]; exact this
    · rw [q.2.1 a ha, g1 a (by omega)]
    · rw [q.2.2.1, g3]
    · rw [q.2.2.2 a i ha, g4 a i ha]
theorem r_putsBy {M : Mem} {P : Nat} (hP : P ≤ 15) (h : M.1 169 28 = nI P) : Ok (fX10_putsBy M) (fun M' => (∀ i, i < 22 → M'.1 185 (22 * P + i) = M.1 171 i) ∧ (∀ k, k < 22 * P → M'.1 185 k = M.1 185 k) ∧ FrR (fun a => a = 185) (fun _ => False) M M') := by
  rw [e_X10_putsBy]
  have hFU : 2000 < FU := FU_big
  generalize FU = fu0 at hFU ⊢
  refine ok_loop 22 (fun fu k s => fX10_putsBy_2 fu (nI k) s) (fun k s => (∀ i, i < k → s.1 185 (22 * P + i) = M.1 171 i) ∧ (∀ j, j < 22 * P → s.1 185 j = M.1 185 j) ∧ FrR (fun a => a = 185) (fun _ => False) M s) ?_ ?_ fu0 0 M (by omega) (by omega) ⟨fun i hi => absurd hi (Nat.not_lt_zero _), fun _ _ => rfl, frR_rfl⟩
  · intro fu k s hk hs ih
    obtain ⟨b1, b2, b3⟩ := hs
    have e28 : s.1 169 28 = nI P := by rw [b3.2.1 28 (fun q => q)]; exact h
    have e171 : s.1 171 k = M.1 171 k := by rw [b3.1 171 (by omega) (by omega)]
    have e22 : (22 : Int32) * nI P = nI (22 * P) := by rw [show (22 : Int32) = nI 22 from rfl, pk_mul]
    rw [e_X10_putsBy_2]
    simp (disch := omega) only [↓reduceIte, ic_t, ic_f, not_true_eq_false, not_false_eq_true, ↓lt_v, rdR, rdE, rdS, leT, leTc, leTd, leF, leFc, leFd, ltT, ltTc, ltTd, ltF, ltFc, ltFd, eqT, eqTc, eqTd, eqF, eqFc, eqFd, m1T, m1F, m1T', m1F', inb_nI, ix_nI, inb_c, ix_c, nI_1, nI_pred, nI_m1, add_nIc, add_cnI, bd_v, reduceCtorEq, eqFcc, m1e0, m1e1, m1l0, m1g0, m2l0, m2g0, Int32.reduceLT, Int32.reduceLE, Int32.reduceAdd, Int32.reduceSub, Int32.reduceMul, eq_self, Bool.false_eq_true, e28, e22, nI_add, e171]
    refine ih _ ⟨fun i hi => ?_, fun j hj => ?_, frR_trans b3 (frR_sI (by omega) (by omega))⟩
    · by_cases e : i = k
      · subst e; simp (disch := omega) only [↓reduceIte, ic_t, ic_f, not_true_eq_false, not_false_eq_true, ↓lt_v, rdR, rdE, rdS, leT, leTc, leTd, leF, leFc, leFd, ltT, ltTc, ltTd, ltF, ltFc, ltFd, eqT, eqTc, eqTd, eqF, eqFc, eqFd, m1T, m1F, m1T', m1F', inb_nI, ix_nI, inb_c, ix_c, nI_1, nI_pred, nI_m1, add_nIc, add_cnI, bd_v, reduceCtorEq, eqFcc, m1e0, m1e1, m1l0, m1g0, m2l0, m2g0, Int32.reduceLT, Int32.reduceLE, Int32.reduceAdd, Int32.reduceSub, Int32.reduceMul, eq_self, Bool.false_eq_true]
      · simp (disch := omega) only [↓reduceIte, ic_t, ic_f, not_true_eq_false, not_false_eq_true, ↓lt_v, rdR, rdE, rdS, leT, leTc, leTd, leF, leFc, leFd, ltT, ltTc, ltTd, ltF, ltFc, ltFd, eqT, eqTc, eqTd, eqF, eqFc, eqFd, m1T, m1F, m1T', m1F', inb_nI, ix_nI, inb_c, ix_c, nI_1, nI_pred, nI_m1, add_nIc, add_cnI, bd_v, reduceCtorEq, eqFcc, m1e0, m1e1, m1l0, m1g0, m2l0, m2g0, Int32.reduceLT, Int32.reduceLE, Int32.reduceAdd, Int32.reduceSub, Int32.reduceMul, eq_self, Bool.false_eq_true]
        exact b1 i (by omega)
    · simp (disch := omega) only [↓reduceIte, ic_t, ic_f, not_true_eq_false, not_false_eq_true, ↓lt_v, rdR, rdE, rdS, leT, leTc, leTd, leF, leFc, leFd, ltT, ltTc, ltTd, ltF, ltFc, ltFd, eqT, eqTc, eqTd, eqF, eqFc, eqFd, m1T, m1F, m1T', m1F', inb_nI, ix_nI, inb_c, ix_c, nI_1, nI_pred, nI_m1, add_nIc, add_cnI, bd_v, reduceCtorEq, eqFcc, m1e0, m1e1, m1l0, m1g0, m2l0, m2g0, Int32.reduceLT, Int32.reduceLE, Int32.reduceAdd, Int32.reduceSub, Int32.reduceMul, eq_self, Bool.false_eq_true]
      exact b2 j hj
  · intro fu s hs
    rw [e_X10_putsBy_2]
    simp (disch := omega) only [↓reduceIte, ic_t, ic_f, not_true_eq_false, not_false_eq_true, ↓lt_v, rdR, rdE, rdS, leT, leTc, leTd, leF, leFc, leFd, ltT, ltTc, ltTd, ltF, ltFc, ltFd, eqT, eqTc, eqTd, eqF, eqFc, eqFd, m1T, m1F, m1T', m1F', inb_nI, ix_nI, inb_c, ix_c, nI_1, nI_pred, nI_m1, add_nIc, add_cnI, bd_v, reduceCtorEq, eqFcc, m1e0, m1e1, m1l0, m1g0, m2l0, m2g0, Int32.reduceLT, Int32.reduceLE, Int32.reduceAdd, Int32.reduceSub, Int32.reduceMul, eq_self, Bool.false_eq_true]
    exact ok_some hs
theorem r_adds {M : Mem} {n P : Nat} {us : Nat → VV} {v : VV} {x : Int32} (hP : P ≤ 15) (h28 : M.1 169 28 = nI P) (h1 : ∀ j, j < P → ∀ i, i < 22 → M.1 185 (22 * j + i) = (us j).1 i) (h2 : ∀ i, i < 22 → M.1 185 (22 * P + i) = v.1 i) :
    Ok (fX10_adds x M) (fun q => q.1 = x ∧ PsR n (pushU P us v).1 (pushU P us v).2 q.2 ∧ FrR (fun a => a = 185) (fun i => i = 28) M q.2) := by
  rw [e_X10_adds]
  unfold pushU PsR
  by_cases h : P < 15
  · simp (disch := omega) only [↓reduceIte, ic_t, ic_f, not_true_eq_false, not_false_eq_true, ↓lt_v, rdR, rdE, rdS, leT, leTc, leTd, leF, leFc, leFd, ltT, ltTc, ltTd, ltF, ltFc, ltFd, eqT, eqTc, eqTd, eqF, eqFc, eqFd, m1T, m1F, m1T', m1F', inb_nI, ix_nI, inb_c, ix_c, nI_1, nI_pred, nI_m1, add_nIc, add_cnI, bd_v, reduceCtorEq, eqFcc, m1e0, m1e1, m1l0, m1g0, m2l0, m2g0, Int32.reduceLT, Int32.reduceLE, Int32.reduceAdd, Int32.reduceSub, Int32.reduceMul, eq_self, Bool.false_eq_true, h28]
    rw [if_pos h]
    refine ok_some ⟨rfl, ⟨by simp (disch := omega) only [↓reduceIte, ic_t, ic_f, not_true_eq_false, not_false_eq_true, ↓lt_v, rdR, rdE, rdS, leT, leTc, leTd, leF, leFc, leFd, ltT, ltTc, ltTd, ltF, ltFc, ltFd, eqT, eqTc, eqTd, eqF, eqFc, eqFd, m1T, m1F, m1T', m1F', inb_nI, ix_nI, inb_c, ix_c, nI_1, nI_pred, nI_m1, add_nIc, add_cnI, bd_v, reduceCtorEq, eqFcc, m1e0, m1e1, m1l0, m1g0, m2l0, m2g0, Int32.reduceLT, Int32.reduceLE, Int32.reduceAdd, Int32.reduceSub, Int32.reduceMul, eq_self, Bool.false_eq_true], fun j hj i hi => ?_⟩, frR_sI (by omega) (by omega)⟩
    have hj : j < P + 1 := hj
    simp (disch := omega) only [↓reduceIte, ic_t, ic_f, not_true_eq_false, not_false_eq_true, ↓lt_v, rdR, rdE, rdS, leT, leTc, leTd, leF, leFc, leFd, ltT, ltTc, ltTd, ltF, ltFc, ltFd, eqT, eqTc, eqTd, eqF, eqFc, eqFd, m1T, m1F, m1T', m1F', inb_nI, ix_nI, inb_c, ix_c, nI_1, nI_pred, nI_m1, add_nIc, add_cnI, bd_v, reduceCtorEq, eqFcc, m1e0, m1e1, m1l0, m1g0, m2l0, m2g0, Int32.reduceLT, Int32.reduceLE, Int32.reduceAdd, Int32.reduceSub, Int32.reduceMul, eq_self, Bool.false_eq_true]
    by_cases e : j = P
    · subst e
      show _ = (up1 us j v j).1 i
      rw [up1_e rfl]; exact h2 i hi
    · show _ = (up1 us P v j).1 i
      rw [up1_n e]; exact h1 j (by omega) i hi
  · have hP : P = 15 := by omega
    subst hP
    rw [if_neg h]
    simp (disch := omega) only [↓reduceIte, ic_t, ic_f, not_true_eq_false, not_false_eq_true, ↓lt_v, rdR, rdE, rdS, leT, leTc, leTd, leF, leFc, leFd, ltT, ltTc, ltTd, ltF, ltFc, ltFd, eqT, eqTc, eqTd, eqF, eqFc, eqFd, m1T, m1F, m1T', m1F', inb_nI, ix_nI, inb_c, ix_c, nI_1, nI_pred, nI_m1, add_nIc, add_cnI, bd_v, reduceCtorEq, eqFcc, m1e0, m1e1, m1l0, m1g0, m2l0, m2g0, Int32.reduceLT, Int32.reduceLE, Int32.reduceAdd, Int32.reduceSub, Int32.reduceMul, eq_self, Bool.false_eq_true, h28]
    have hFU : 2000 < FU := FU_big
    generalize FU = fu0 at hFU ⊢
    refine ok_loop 330 (fun fu k s => fX10_adds_21 fu x (nI k) s) (fun k s => (∀ j, s.1 185 j = if j < k then M.1 185 (j + 22) else M.1 185 j) ∧ s.1 169 28 = nI 16 ∧ FrR (fun a => a = 185) (fun i => i = 28) M s) ?_ ?_ fu0 0 _ (by omega) (by omega) ⟨fun j => by simp (disch := omega) only [↓reduceIte, ic_t, ic_f, not_true_eq_false, not_false_eq_true, ↓lt_v, rdR, rdE, rdS, leT, leTc, leTd, leF, leFc, leFd, ltT, ltTc, ltTd, ltF, ltFc, ltFd, eqT, eqTc, eqTd, eqF, eqFc, eqFd, m1T, m1F, m1T', m1F', inb_nI, ix_nI, inb_c, ix_c, nI_1, nI_pred, nI_m1, add_nIc, add_cnI, bd_v, reduceCtorEq, eqFcc, m1e0, m1e1, m1l0, m1g0, m2l0, m2g0, Int32.reduceLT, Int32.reduceLE, Int32.reduceAdd, Int32.reduceSub, Int32.reduceMul, eq_self, Bool.false_eq_true]; rw [if_neg (by omega)], by simp (disch := omega) only [↓reduceIte, ic_t, ic_f, not_true_eq_false, not_false_eq_true, ↓lt_v, rdR, rdE, rdS, leT, leTc, leTd, leF, leFc, leFd, ltT, ltTc, ltTd, ltF, ltFc, ltFd, eqT, eqTc, eqTd, eqF, eqFc, eqFd, m1T, m1F, m1T', m1F', inb_nI, ix_nI, inb_c, ix_c, nI_1, nI_pred, nI_m1, add_nIc, add_cnI, bd_v, reduceCtorEq, eqFcc, m1e0, m1e1, m1l0, m1g0, m2l0, m2g0, Int32.reduceLT, Int32.reduceLE, Int32.reduceAdd, Int32.reduceSub, Int32.reduceMul, eq_self, Bool.false_eq_true], frR_sI (by omega) (by omega)⟩
    · intro fu k s hk hs ih
      obtain ⟨b1, b2, b3⟩ := hs
      have e := b1 (k + 22)
      rw [if_neg (by omega)] at e
      rw [e_X10_adds_21]
      simp (disch := omega) only [↓reduceIte, ic_t, ic_f, not_true_eq_false, not_false_eq_true, ↓lt_v, rdR, rdE, rdS, leT, leTc, leTd, leF, leFc, leFd, ltT, ltTc, ltTd, ltF, ltFc, ltFd, eqT, eqTc, eqTd, eqF, eqFc, eqFd, m1T, m1F, m1T', m1F', inb_nI, ix_nI, inb_c, ix_c, nI_1, nI_pred, nI_m1, add_nIc, add_cnI, bd_v, reduceCtorEq, eqFcc, m1e0, m1e1, m1l0, m1g0, m2l0, m2g0, Int32.reduceLT, Int32.reduceLE, Int32.reduceAdd, Int32.reduceSub, Int32.reduceMul, eq_self, Bool.false_eq_true, e]
      refine ih _ ⟨fun j => ?_, by simp (disch := omega) only [↓reduceIte, ic_t, ic_f, not_true_eq_false, not_false_eq_true, ↓lt_v, rdR, rdE, rdS, leT, leTc, leTd, leF, leFc, leFd, ltT, ltTc, ltTd, ltF, ltFc, ltFd, eqT, eqTc, eqTd, eqF, eqFc, eqFd, m1T, m1F, m1T', m1F', inb_nI, ix_nI, inb_c, ix_c, nI_1, nI_pred, nI_m1, add_nIc, add_cnI, bd_v, reduceCtorEq, eqFcc, m1e0, m1e1, m1l0, m1g0, m2l0, m2g0, Int32.reduceLT, Int32.reduceLE, Int32.reduceAdd, Int32.reduceSub, Int32.reduceMul, eq_self, Bool.false_eq_true, b2], frR_trans b3 (frR_sI (by omega) (by omega))⟩
      by_cases ej : j = k
      · subst ej
        simp (disch := omega) only [↓reduceIte, ic_t, ic_f, not_true_eq_false, not_false_eq_true, ↓lt_v, rdR, rdE, rdS, leT, leTc, leTd, leF, leFc, leFd, ltT, ltTc, ltTd, ltF, ltFc, ltFd, eqT, eqTc, eqTd, eqF, eqFc, eqFd, m1T, m1F, m1T', m1F', inb_nI, ix_nI, inb_c, ix_c, nI_1, nI_pred, nI_m1, add_nIc, add_cnI, bd_v, reduceCtorEq, eqFcc, m1e0, m1e1, m1l0, m1g0, m2l0, m2g0, Int32.reduceLT, Int32.reduceLE, Int32.reduceAdd, Int32.reduceSub, Int32.reduceMul, eq_self, Bool.false_eq_true]
        rw [if_pos (show j < j + 1 by omega)]
      · simp (disch := omega) only [↓reduceIte, ic_t, ic_f, not_true_eq_false, not_false_eq_true, ↓lt_v, rdR, rdE, rdS, leT, leTc, leTd, leF, leFc, leFd, ltT, ltTc, ltTd, ltF, ltFc, ltFd, eqT, eqTc, eqTd, eqF, eqFc, eqFd, m1T, m1F, m1T', m1F', inb_nI, ix_nI, inb_c, ix_c, nI_1, nI_pred, nI_m1, add_nIc, add_cnI, bd_v, reduceCtorEq, eqFcc, m1e0, m1e1, m1l0, m1g0, m2l0, m2g0, Int32.reduceLT, Int32.reduceLE, Int32.reduceAdd, Int32.reduceSub, Int32.reduceMul, eq_self, Bool.false_eq_true, b1]
        by_cases c : j < k
        · rw [if_pos c, if_pos (show j < k + 1 by omega)]
        · rw [if_neg c, if_neg (show ¬ j < k + 1 by omega)]
    · intro fu s hs
      obtain ⟨b1, b2, b3⟩ := hs
      rw [e_X10_adds_21]
      simp (disch := omega) only [↓reduceIte, ic_t, ic_f, not_true_eq_false, not_false_eq_true, ↓lt_v, rdR, rdE, rdS, leT, leTc, leTd, leF, leFc, leFd, ltT, ltTc, ltTd, ltF, ltFc, ltFd, eqT, eqTc, eqTd, eqF, eqFc, eqFd, m1T, m1F, m1T', m1F', inb_nI, ix_nI, inb_c, ix_c, nI_1, nI_pred, nI_m1, add_nIc, add_cnI, bd_v, reduceCtorEq, eqFcc, m1e0, m1e1, m1l0, m1g0, m2l0, m2g0, Int32.reduceLT, Int32.reduceLE, Int32.reduceAdd, Int32.reduceSub, Int32.reduceMul, eq_self, Bool.false_eq_true, b2]
      refine ok_some ⟨rfl, ⟨by simp (disch := omega) only [↓reduceIte, ic_t, ic_f, not_true_eq_false, not_false_eq_true, ↓lt_v, rdR, rdE, rdS, leT, leTc, leTd, leF, leFc, leFd, ltT, ltTc, ltTd, ltF, ltFc, ltFd, eqT, eqTc, eqTd, eqF, eqFc, eqFd, m1T, m1F, m1T', m1F', inb_nI, ix_nI, inb_c, ix_c, nI_1, nI_pred, nI_m1, add_nIc, add_cnI, bd_v, reduceCtorEq, eqFcc, m1e0, m1e1, m1l0, m1g0, m2l0, m2g0, Int32.reduceLT, Int32.reduceLE, Int32.reduceAdd, Int32.reduceSub, Int32.reduceMul, eq_self, Bool.false_eq_true], fun j hj i hi => ?_⟩, frR_trans b3 (frR_sI (by omega) (by omega))⟩
      have hj : j < 15 := hj
      simp (disch := omega) only [↓reduceIte, ic_t, ic_f, not_true_eq_false, not_false_eq_true, ↓lt_v, rdR, rdE, rdS, leT, leTc, leTd, leF, leFc, leFd, ltT, ltTc, ltTd, ltF, ltFc, ltFd, eqT, eqTc, eqTd, eqF, eqFc, eqFd, m1T, m1F, m1T', m1F', inb_nI, ix_nI, inb_c, ix_c, nI_1, nI_pred, nI_m1, add_nIc, add_cnI, bd_v, reduceCtorEq, eqFcc, m1e0, m1e1, m1l0, m1g0, m2l0, m2g0, Int32.reduceLT, Int32.reduceLE, Int32.reduceAdd, Int32.reduceSub, Int32.reduceMul, eq_self, Bool.false_eq_true, b1]
      show _ = (if j < 14 then us (j + 1) else v).1 i
      rw [if_pos (by omega), show 22 * j + i + 22 = 22 * (j + 1) + i by omega]
      by_cases c : j < 14
      · rw [if_pos c]; exact h1 (j + 1) (by omega) i hi
      · rw [if_neg c, show j + 1 = 15 by omega]; exact h2 i hi
