/-! PURE: sheet -/
def shR (kind : Nat) (z : Int32) : Int32 := if kind = 0 then z.toInt8.toInt32 else if kind = 1 then z.toInt16.toInt32 else z
def c19 (y : Int32) : Int32 := if (1 : Int32) < (if y < (9 : Int32) then y else 9) then (if y < (9 : Int32) then y else 9) else 1
/-- entry k -/
def shE (kind m : Nat) (f st : Int32) (k : Nat) : Int32 := if k < m then c19 (shR kind (f + nI k * st)) else 1
def shV (n kind m : Nat) (f st : Int32) (v : VV) : VV := (fun i => if i < n then shE kind m f st i else v.1 i, v.2)
theorem wf_shV {n kind m : Nat} {f st : Int32} {v : VV} (h : WfV n v) : WfV n (shV n kind m f st v) := by
  have hn : n ≤ 6 := h.1
  have e : ∀ j, 12 ≤ j → (shV n kind m f st v).1 j = v.1 j := fun j hj => if_neg (by omega)
  exact ⟨h.1, fun k hk => ⟨(h.2.1 k hk).1, (e _ (by omega)).trans (h.2.1 k hk).2⟩, h.2.2.1, by rw [e 18 (by omega)]; exact h.2.2.2.1, by rw [e 19 (by omega)]; exact h.2.2.2.2⟩
theorem c_sheet {M : Mem} {n kind m : Nat} {f st : Int32} {v : VV} (hn : n ≤ 6) (hk : kind ≤ 3) (hm : m ≤ 6) (hv : RvC 6 n v M) : Ok (fX4_takeSheet 6 (nI kind) (nI m) f st M) (fun M' => RvC 6 n (shV n kind m f st v) M' ∧ Fr (fun a => a = 7) M M') := by
  obtain ⟨v1, v2, v3, v4, v5, v6, v7, v8, v9⟩ := hv
  have hi : ∀ i, 6 ≤ i → (shV n kind m f st v).1 i = v.1 i := fun i hi => if_neg (by omega)
  rw [e_X4_takeSheet]
  have hFU : 2000 < FU := FU_big
  generalize FU = fu0 at hFU ⊢
  refine ok_loop n (fun fu k s => fX4_takeSheet_3 fu 6 (nI kind) (nI m) f st (nI k) s) (fun k s => (∀ i, i < k → s.1 7 i = shE kind m f st i) ∧ Fr (fun a => a = 7) M s) ?_ ?_ fu0 0 M (by omega) (by omega) ⟨fun i hi => absurd hi (Nat.not_lt_zero _), fr_rfl⟩
  · intro fu k s hk2 hs ih
    obtain ⟨b1, b2⟩ := hs
    have e6 : s.1 6 0 = nI n := by rw [b2.1 6 (by omega)]; exact v1
    have fin : ∀ z, z = shE kind m f st k → Ok (fX4_takeSheet_3 fu 6 (nI kind) (nI m) f st (nI (k + 1)) (sI s 7 k z)) (fun M' => RvC 6 n (shV n kind m f st v) M' ∧ Fr (fun a => a = 7) M M') := by
      intro z hz
      refine ih _ ⟨fun i hi => ?_, fr_trans b2 (fr_sI rfl)⟩
      by_cases e : i = k
      · subst e; simp (disch := omega) only [↓reduceIte, ic_t, ic_f, not_true_eq_false, not_false_eq_true, ↓lt_v, rdR, rdE, rdS, leT, leTc, leTd, leF, leFc, leFd, ltT, ltTc, ltTd, ltF, ltFc, ltFd, eqT, eqTc, eqTd, eqF, eqFc, eqFd, m1T, m1F, m1T', m1F', inb_nI, ix_nI, inb_c, ix_c, nI_1, nI_pred, nI_m1, add_nIc, add_cnI, bd_v, reduceCtorEq, eqFcc, m1e0, m1e1, m1l0, m1g0, m2l0, m2g0, Int32.reduceLT, Int32.reduceLE, Int32.reduceAdd, Int32.reduceSub, Int32.reduceMul, eq_self, Bool.false_eq_true, hz]
      · simp (disch := omega) only [↓reduceIte, ic_t, ic_f, not_true_eq_false, not_false_eq_true, ↓lt_v, rdR, rdE, rdS, leT, leTc, leTd, leF, leFc, leFd, ltT, ltTc, ltTd, ltF, ltFc, ltFd, eqT, eqTc, eqTd, eqF, eqFc, eqFd, m1T, m1F, m1T', m1F', inb_nI, ix_nI, inb_c, ix_c, nI_1, nI_pred, nI_m1, add_nIc, add_cnI, bd_v, reduceCtorEq, eqFcc, m1e0, m1e1, m1l0, m1g0, m2l0, m2g0, Int32.reduceLT, Int32.reduceLE, Int32.reduceAdd, Int32.reduceSub, Int32.reduceMul, eq_self, Bool.false_eq_true]
        exact b1 i (by omega)
    have go : ∀ y : Int32, y = shR kind (f + nI k * st) → Ok (fX4_takeSheet_44 (fX4_takeSheet_3 fu) 6 (nI kind) (nI m) f st (nI k) y s) (fun M' => RvC 6 n (shV n kind m f st v) M' ∧ Fr (fun a => a = 7) M M') := by
      intro y hy
      rw [e_X4_takeSheet_44]
      by_cases c : m ≤ k
      · simp (disch := omega) only [↓reduceIte, ic_t, ic_f, not_true_eq_false, not_false_eq_true, ↓lt_v, rdR, rdE, rdS, leT, leTc, leTd, leF, leFc, leFd, ltT, ltTc, ltTd, ltF, ltFc, ltFd, eqT, eqTc, eqTd, eqF, eqFc, eqFd, m1T, m1F, m1T', m1F', inb_nI, ix_nI, inb_c, ix_c, nI_1, nI_pred, nI_m1, add_nIc, add_cnI, bd_v, reduceCtorEq, eqFcc, m1e0, m1e1, m1l0, m1g0, m2l0, m2g0, Int32.reduceLT, Int32.reduceLE, Int32.reduceAdd, Int32.reduceSub, Int32.reduceMul, eq_self, Bool.false_eq_true]
        exact fin _ (by unfold shE; rw [if_neg (by omega)])
      · simp (disch := omega) only [↓reduceIte, ic_t, ic_f, not_true_eq_false, not_false_eq_true, ↓lt_v, rdR, rdE, rdS, leT, leTc, leTd, leF, leFc, leFd, ltT, ltTc, ltTd, ltF, ltFc, ltFd, eqT, eqTc, eqTd, eqF, eqFc, eqFd, m1T, m1F, m1T', m1F', inb_nI, ix_nI, inb_c, ix_c, nI_1, nI_pred, nI_m1, add_nIc, add_cnI, bd_v, reduceCtorEq, eqFcc, m1e0, m1e1, m1l0, m1g0, m2l0, m2g0, Int32.reduceLT, Int32.reduceLE, Int32.reduceAdd, Int32.reduceSub, Int32.reduceMul, eq_self, Bool.false_eq_true]
        exact fin (c19 y) (by unfold shE; rw [if_pos (show k < m by omega), ← hy])
    rw [e_X4_takeSheet_3]
    by_cases k0 : kind = 0
    · simp (disch := omega) only [↓reduceIte, ic_t, ic_f, not_true_eq_false, not_false_eq_true, ↓lt_v, rdR, rdE, rdS, leT, leTc, leTd, leF, leFc, leFd, ltT, ltTc, ltTd, ltF, ltFc, ltFd, eqT, eqTc, eqTd, eqF, eqFc, eqFd, m1T, m1F, m1T', m1F', inb_nI, ix_nI, inb_c, ix_c, nI_1, nI_pred, nI_m1, add_nIc, add_cnI, bd_v, reduceCtorEq, eqFcc, m1e0, m1e1, m1l0, m1g0, m2l0, m2g0, Int32.reduceLT, Int32.reduceLE, Int32.reduceAdd, Int32.reduceSub, Int32.reduceMul, eq_self, Bool.false_eq_true, e6]
      exact go _ (by unfold shR; rw [if_pos k0])
    · by_cases k1 : kind = 1
      · simp (disch := omega) only [↓reduceIte, ic_t, ic_f, not_true_eq_false, not_false_eq_true, ↓lt_v, rdR, rdE, rdS, leT, leTc, leTd, leF, leFc, leFd, ltT, ltTc, ltTd, ltF, ltFc, ltFd, eqT, eqTc, eqTd, eqF, eqFc, eqFd, m1T, m1F, m1T', m1F', inb_nI, ix_nI, inb_c, ix_c, nI_1, nI_pred, nI_m1, add_nIc, add_cnI, bd_v, reduceCtorEq, eqFcc, m1e0, m1e1, m1l0, m1g0, m2l0, m2g0, Int32.reduceLT, Int32.reduceLE, Int32.reduceAdd, Int32.reduceSub, Int32.reduceMul, eq_self, Bool.false_eq_true, e6]
        exact go _ (by unfold shR; rw [if_neg k0, if_pos k1])
      · simp (disch := omega) only [↓reduceIte, ic_t, ic_f, not_true_eq_false, not_false_eq_true, ↓lt_v, rdR, rdE, rdS, leT, leTc, leTd, leF, leFc, leFd, ltT, ltTc, ltTd, ltF, ltFc, ltFd, eqT, eqTc, eqTd, eqF, eqFc, eqFd, m1T, m1F, m1T', m1F', inb_nI, ix_nI, inb_c, ix_c, nI_1, nI_pred, nI_m1, add_nIc, add_cnI, bd_v, reduceCtorEq, eqFcc, m1e0, m1e1, m1l0, m1g0, m2l0, m2g0, Int32.reduceLT, Int32.reduceLE, Int32.reduceAdd, Int32.reduceSub, Int32.reduceMul, eq_self, Bool.false_eq_true, e6]
        exact go _ (by unfold shR; rw [if_neg k0, if_neg k1])
  · intro fu s hs
    obtain ⟨b1, b2⟩ := hs
    have e6 : s.1 6 0 = nI n := by rw [b2.1 6 (by omega)]; exact v1
    rw [e_X4_takeSheet_3]
    simp (disch := omega) only [↓reduceIte, ic_t, ic_f, not_true_eq_false, not_false_eq_true, ↓lt_v, rdR, rdE, rdS, leT, leTc, leTd, leF, leFc, leFd, ltT, ltTc, ltTd, ltF, ltFc, ltFd, eqT, eqTc, eqTd, eqF, eqFc, eqFd, m1T, m1F, m1T', m1F', inb_nI, ix_nI, inb_c, ix_c, nI_1, nI_pred, nI_m1, add_nIc, add_cnI, bd_v, reduceCtorEq, eqFcc, m1e0, m1e1, m1l0, m1g0, m2l0, m2g0, Int32.reduceLT, Int32.reduceLE, Int32.reduceAdd, Int32.reduceSub, Int32.reduceMul, eq_self, Bool.false_eq_true, e6]
    refine ok_some ⟨⟨e6, fun b hb => ?_, fun b hb => ?_, fun b hb => ?_, fun k hk => ?_, ?_, ?_, ?_, ?_⟩, b2⟩
    · rw [b1 b hb]
      exact (if_pos hb).symm
    · rw [b2.1 (6 + 2) (by omega), v3 b hb, hi _ (by omega)]
    · rw [b2.1 (6 + 3) (by omega), v4 b hb, hi _ (by omega)]
    · rw [b2.1 (6 + 4) (by omega), v5 k hk]; rfl
    · rw [b2.1 6 (by omega), v6, hi _ (by omega)]
    · rw [b2.1 6 (by omega), v7, hi _ (by omega)]
    · rw [b2.1 6 (by omega), v8, hi _ (by omega)]
    · rw [b2.1 6 (by omega), v9, hi _ (by omega)]
theorem add_step (f st : Int32) (k : Nat) : f + nI k * st + st = f + nI (k + 1) * st := by
  rw [← nI_1, Int32.add_mul, Int32.one_mul, Int32.add_assoc]
theorem r_sheet {M : Mem} {n kind m : Nat} {x2 f st : Int32} {v : VV} (hn : n ≤ 6) (hk : kind ≤ 3) (hm : m ≤ 6) (hx2 : kind ≠ 3 → x2 = nI m) (h3 : kind = 3 → m = 0) (h0 : M.1 169 3 = nI n) (hv : ∀ i, i < 22 → M.1 171 i = v.1 i) : Ok (fX10_sheet_43 FU (nI kind) x2 st f 0 M) (fun q => q.1 = (if kind = 3 then -3 else sumI (shV n kind m f st v).1 n) ∧ (∀ i, i < 22 → q.2.1 171 i = (shV n kind m f st v).1 i) ∧ FrR (fun a => a = 171) (fun _ => False) M q.2) := by
  have hFU : 2000 < FU := FU_big
  generalize FU = fu0 at hFU ⊢
  refine ok_loop n (fun fu k (s : Int32 × Mem) => fX10_sheet_43 fu (nI kind) x2 st s.1 (nI k) s.2) (fun k s => s.1 = f + nI k * st ∧ (∀ i, i < 22 → s.2.1 171 i = if i < k then shE kind m f st i else v.1 i) ∧ FrR (fun a => a = 171) (fun _ => False) M s.2) ?_ ?_ fu0 0 (f, M) (by omega) (by omega) ⟨by show f = f + nI 0 * st; rw [nI_0, Int32.zero_mul, Int32.add_zero], fun i hi => by rw [if_neg (by omega)]; exact hv i hi, frR_rfl⟩
  · intro fu k s hk2 hs ih
    obtain ⟨b0, b1, b2⟩ := hs
    have e3 : s.2.1 169 3 = nI n := by rw [b2.2.1 3 (fun q => q)]; exact h0
    have fin : ∀ z, z = shE kind m f st k → Ok (fX10_sheet_43 fu (nI kind) x2 st (s.1 + st) (nI (k + 1)) (sI s.2 171 k z)) (fun q => q.1 = (if kind = 3 then -3 else sumI (shV n kind m f st v).1 n) ∧ (∀ i, i < 22 → q.2.1 171 i = (shV n kind m f st v).1 i) ∧ FrR (fun a => a = 171) (fun _ => False) M q.2) := by
      intro z hz
      refine ih (s.1 + st, sI s.2 171 k z) ⟨by show s.1 + st = _; rw [b0, add_step], fun i hi => ?_, frR_trans b2 (frR_sI (by omega) (by omega))⟩
      by_cases e : i = k
      · subst e
        simp (disch := omega) only [↓reduceIte, ic_t, ic_f, not_true_eq_false, not_false_eq_true, ↓lt_v, rdR, rdE, rdS, leT, leTc, leTd, leF, leFc, leFd, ltT, ltTc, ltTd, ltF, ltFc, ltFd, eqT, eqTc, eqTd, eqF, eqFc, eqFd, m1T, m1F, m1T', m1F', inb_nI, ix_nI, inb_c, ix_c, nI_1, nI_pred, nI_m1, add_nIc, add_cnI, bd_v, reduceCtorEq, eqFcc, m1e0, m1e1, m1l0, m1g0, m2l0, m2g0, Int32.reduceLT, Int32.reduceLE, Int32.reduceAdd, Int32.reduceSub, Int32.reduceMul, eq_self, Bool.false_eq_true, hz]
        rw [if_pos (show i < i + 1 by omega)]
      · simp (disch := omega) only [↓reduceIte, ic_t, ic_f, not_true_eq_false, not_false_eq_true, ↓lt_v, rdR, rdE, rdS, leT, leTc, leTd, leF, leFc, leFd, ltT, ltTc, ltTd, ltF, ltFc, ltFd, eqT, eqTc, eqTd, eqF, eqFc, eqFd, m1T, m1F, m1T', m1F', inb_nI, ix_nI, inb_c, ix_c, nI_1, nI_pred, nI_m1, add_nIc, add_cnI, bd_v, reduceCtorEq, eqFcc, m1e0, m1e1, m1l0, m1g0, m2l0, m2g0, Int32.reduceLT, Int32.reduceLE, Int32.reduceAdd, Int32.reduceSub, Int32.reduceMul, eq_self, Bool.false_eq_true]
        rw [b1 i hi]
        by_cases c : i < k
        · rw [if_pos c, if_pos (show i < k + 1 by omega)]
        · rw [if_neg c, if_neg (show ¬ i < k + 1 by omega)]
    have go : ∀ y : Int32, y = shR kind (f + nI k * st) → Ok (fX10_sheet_75 (fX10_sheet_43 fu) (nI kind) x2 st s.1 (nI k) y s.2) (fun q => q.1 = (if kind = 3 then -3 else sumI (shV n kind m f st v).1 n) ∧ (∀ i, i < 22 → q.2.1 171 i = (shV n kind m f st v).1 i) ∧ FrR (fun a => a = 171) (fun _ => False) M q.2) := by
      intro y hy
      rw [e_X10_sheet_75]
      by_cases k3 : kind = 3
      · simp (disch := omega) only [↓reduceIte, ic_t, ic_f, not_true_eq_false, not_false_eq_true, ↓lt_v, rdR, rdE, rdS, leT, leTc, leTd, leF, leFc, leFd, ltT, ltTc, ltTd, ltF, ltFc, ltFd, eqT, eqTc, eqTd, eqF, eqFc, eqFd, m1T, m1F, m1T', m1F', inb_nI, ix_nI, inb_c, ix_c, nI_1, nI_pred, nI_m1, add_nIc, add_cnI, bd_v, reduceCtorEq, eqFcc, m1e0, m1e1, m1l0, m1g0, m2l0, m2g0, Int32.reduceLT, Int32.reduceLE, Int32.reduceAdd, Int32.reduceSub, Int32.reduceMul, eq_self, Bool.false_eq_true]
        exact fin _ (by unfold shE; rw [if_neg (by rw [h3 k3]; omega)])
      · rw [hx2 k3]
        by_cases c : k < m
        · simp (disch := omega) only [↓reduceIte, ic_t, ic_f, not_true_eq_false, not_false_eq_true, ↓lt_v, rdR, rdE, rdS, leT, leTc, leTd, leF, leFc, leFd, ltT, ltTc, ltTd, ltF, ltFc, ltFd, eqT, eqTc, eqTd, eqF, eqFc, eqFd, m1T, m1F, m1T', m1F', inb_nI, ix_nI, inb_c, ix_c, nI_1, nI_pred, nI_m1, add_nIc, add_cnI, bd_v, reduceCtorEq, eqFcc, m1e0, m1e1, m1l0, m1g0, m2l0, m2g0, Int32.reduceLT, Int32.reduceLE, Int32.reduceAdd, Int32.reduceSub, Int32.reduceMul, eq_self, Bool.false_eq_true]
          have := fin (c19 y) (by unfold shE; rw [if_pos c, ← hy])
          rw [hx2 k3] at this
          exact this
        · simp (disch := omega) only [↓reduceIte, ic_t, ic_f, not_true_eq_false, not_false_eq_true, ↓lt_v, rdR, rdE, rdS, leT, leTc, leTd, leF, leFc, leFd, ltT, ltTc, ltTd, ltF, ltFc, ltFd, eqT, eqTc, eqTd, eqF, eqFc, eqFd, m1T, m1F, m1T', m1F', inb_nI, ix_nI, inb_c, ix_c, nI_1, nI_pred, nI_m1, add_nIc, add_cnI, bd_v, reduceCtorEq, eqFcc, m1e0, m1e1, m1l0, m1g0, m2l0, m2g0, Int32.reduceLT, Int32.reduceLE, Int32.reduceAdd, Int32.reduceSub, Int32.reduceMul, eq_self, Bool.false_eq_true]
          have := fin 1 (by unfold shE; rw [if_neg c])
          rw [hx2 k3] at this
          exact this
    rw [e_X10_sheet_43]
    by_cases k0 : kind = 0
    · simp (disch := omega) only [↓reduceIte, ic_t, ic_f, not_true_eq_false, not_false_eq_true, ↓lt_v, rdR, rdE, rdS, leT, leTc, leTd, leF, leFc, leFd, ltT, ltTc, ltTd, ltF, ltFc, ltFd, eqT, eqTc, eqTd, eqF, eqFc, eqFd, m1T, m1F, m1T', m1F', inb_nI, ix_nI, inb_c, ix_c, nI_1, nI_pred, nI_m1, add_nIc, add_cnI, bd_v, reduceCtorEq, eqFcc, m1e0, m1e1, m1l0, m1g0, m2l0, m2g0, Int32.reduceLT, Int32.reduceLE, Int32.reduceAdd, Int32.reduceSub, Int32.reduceMul, eq_self, Bool.false_eq_true, e3]
      exact go _ (by unfold shR; rw [if_pos k0, b0])
    · by_cases k1 : kind = 1
      · simp (disch := omega) only [↓reduceIte, ic_t, ic_f, not_true_eq_false, not_false_eq_true, ↓lt_v, rdR, rdE, rdS, leT, leTc, leTd, leF, leFc, leFd, ltT, ltTc, ltTd, ltF, ltFc, ltFd, eqT, eqTc, eqTd, eqF, eqFc, eqFd, m1T, m1F, m1T', m1F', inb_nI, ix_nI, inb_c, ix_c, nI_1, nI_pred, nI_m1, add_nIc, add_cnI, bd_v, reduceCtorEq, eqFcc, m1e0, m1e1, m1l0, m1g0, m2l0, m2g0, Int32.reduceLT, Int32.reduceLE, Int32.reduceAdd, Int32.reduceSub, Int32.reduceMul, eq_self, Bool.false_eq_true, e3]
        exact go _ (by unfold shR; rw [if_neg k0, if_pos k1, b0])
      · simp (disch := omega) only [↓reduceIte, ic_t, ic_f, not_true_eq_false, not_false_eq_true, ↓lt_v, rdR, rdE, rdS, leT, leTc, leTd, leF, leFc, leFd, ltT, ltTc, ltTd, ltF, ltFc, ltFd, eqT, eqTc, eqTd, eqF, eqFc, eqFd, m1T, m1F, m1T', m1F', inb_nI, ix_nI, inb_c, ix_c, nI_1, nI_pred, nI_m1, add_nIc, add_cnI, bd_v, reduceCtorEq, eqFcc, m1e0, m1e1, m1l0, m1g0, m2l0, m2g0, Int32.reduceLT, Int32.reduceLE, Int32.reduceAdd, Int32.reduceSub, Int32.reduceMul, eq_self, Bool.false_eq_true, e3]
        exact go _ (by unfold shR; rw [if_neg k0, if_neg k1, b0])
  · intro fu s hs
    obtain ⟨b0, b1, b2⟩ := hs
    have e3 : s.2.1 169 3 = nI n := by rw [b2.2.1 3 (fun q => q)]; exact h0
    have hrow : ∀ i, i < 22 → s.2.1 171 i = (shV n kind m f st v).1 i := b1
    rw [e_X10_sheet_43]
    by_cases k3 : kind = 3
    · simp (disch := omega) only [↓reduceIte, ic_t, ic_f, not_true_eq_false, not_false_eq_true, ↓lt_v, rdR, rdE, rdS, leT, leTc, leTd, leF, leFc, leFd, ltT, ltTc, ltTd, ltF, ltFc, ltFd, eqT, eqTc, eqTd, eqF, eqFc, eqFd, m1T, m1F, m1T', m1F', inb_nI, ix_nI, inb_c, ix_c, nI_1, nI_pred, nI_m1, add_nIc, add_cnI, bd_v, reduceCtorEq, eqFcc, m1e0, m1e1, m1l0, m1g0, m2l0, m2g0, Int32.reduceLT, Int32.reduceLE, Int32.reduceAdd, Int32.reduceSub, Int32.reduceMul, eq_self, Bool.false_eq_true, e3]
      rw [if_pos k3]
      exact ok_some ⟨rfl, hrow, b2⟩
    · have hsum := r_sumOf (f := 0) hn ln171 (by omega) e3 hrow
      rw [show fX10_sumOf 171 0 = fX10_sumOf 171 (nI 0) from rfl]
      simp (disch := omega) only [↓reduceIte, ic_t, ic_f, not_true_eq_false, not_false_eq_true, ↓lt_v, rdR, rdE, rdS, leT, leTc, leTd, leF, leFc, leFd, ltT, ltTc, ltTd, ltF, ltFc, ltFd, eqT, eqTc, eqTd, eqF, eqFc, eqFd, m1T, m1F, m1T', m1F', inb_nI, ix_nI, inb_c, ix_c, nI_1, nI_pred, nI_m1, add_nIc, add_cnI, bd_v, reduceCtorEq, eqFcc, m1e0, m1e1, m1l0, m1g0, m2l0, m2g0, Int32.reduceLT, Int32.reduceLE, Int32.reduceAdd, Int32.reduceSub, Int32.reduceMul, eq_self, Bool.false_eq_true, e3, hsum]
      rw [if_neg k3]
      refine ok_some ⟨?_, hrow, b2⟩
      show sumI (fun i => (shV n kind m f st v).1 (0 + i)) n = _
      simp
theorem st_sheet {M : Mem} {x y f st : Int32} (h : Rel M) : StI (fun M => fX9_sheet x y f st M) (fun M => fX10_sheet x y f st M) M := by
  obtain ⟨S, hS, hc, hr⟩ := h
  have hn : S.1.1 ≤ 6 := hS.1.1
  have hR := hc.1.2.2.2.2
  rcases range_cases x 0 3 (by omega) (by omega) with ⟨kind, _, hk, rfl⟩ | ⟨hx, hx2⟩
  · have hi : ∀ M : Mem, fX10_in (nI kind).toInt64 0 3 M = some (1, M) := fun M => by rw [r_inI (lo := 0) (hi := 3) (by decide) (by decide), nI_toInt (by omega), if_pos (by omega)]
    have doit : ∀ m, m ≤ 6 → y ≤ 6 → (kind ≠ 3 → y = nI m) → (kind = 3 → m = 0) → StI (fun M => fX9_sheet (nI kind) y f st M) (fun M => fX10_sheet (nI kind) y f st M) M := by
      intro m hm hy6 hy h3
      have hw : WfV S.1.1 (shV S.1.1 kind m f st S.1.2.1) := wf_shV hS.1
      refine st_gen (S := S) (S' := setV S (shV S.1.1 kind m f st S.1.2.1)) (x := if kind = 3 then -3 else sumI (shV S.1.1 kind m f st S.1.2.1).1 S.1.1) ⟨hw, hS.2⟩ hr ?_ (fun M1 h1 => ?_)
      · show Ok (fX9_sheet (nI kind) y f st M) _
        have hcr : ∀ M1, RvC 6 S.1.1 (shV S.1.1 kind m f st S.1.2.1) M1 → Fr (fun a => a = 7) M M1 → CRel (setV S (shV S.1.1 kind m f st S.1.2.1)) M1 ∧ CFr M M1 := fun M1 g1 g2 => ⟨crel_make hc ⟨rfl, rfl, rfl, rfl, rfl⟩ hw (fun a ha _ => g2.1 a (by omega)) (by rw [g2.2]) (fun a i _ => by rw [g2.2]) g1 (psC_fr hc.2.2.2.2.1 (fun a _ _ => g2.1 a (by omega)) (by rw [g2.2])), fun a ha => ⟨g2.1 a (by omega), by rw [g2.2]⟩⟩
        rw [e_X9_sheet]
        by_cases k3 : kind = 3
        · simp (disch := omega) only [↓reduceIte, ic_t, ic_f, not_true_eq_false, not_false_eq_true, ↓lt_v, rdR, rdE, rdS, leT, leTc, leTd, leF, leFc, leFd, ltT, ltTc, ltTd, ltF, ltFc, ltFd, eqT, eqTc, eqTd, eqF, eqFc, eqFd, m1T, m1F, m1T', m1F', inb_nI, ix_nI, inb_c, ix_c, nI_1, nI_pred, nI_m1, add_nIc, add_cnI, bd_v, reduceCtorEq, eqFcc, m1e0, m1e1, m1l0, m1g0, m2l0, m2g0, Int32.reduceLT, Int32.reduceLE, Int32.reduceAdd, Int32.reduceSub, Int32.reduceMul, eq_self, Bool.false_eq_true, eq_true hy6]
          rw [if_pos k3]
          have hm0 := h3 k3
          rw [show (0 : Int32) = nI m by rw [hm0]; rfl]
          refine ok_call (c_sheet hn hk hm hc.1.2.1) (fun M1 g => ok_some ⟨rfl, hcr M1 g.1 g.2⟩)
        · rw [hy k3] at hy6 ⊢
          simp (disch := omega) only [↓reduceIte, ic_t, ic_f, not_true_eq_false, not_false_eq_true, ↓lt_v, rdR, rdE, rdS, leT, leTc, leTd, leF, leFc, leFd, ltT, ltTc, ltTd, ltF, ltFc, ltFd, eqT, eqTc, eqTd, eqF, eqFc, eqFd, m1T, m1F, m1T', m1F', inb_nI, ix_nI, inb_c, ix_c, nI_1, nI_pred, nI_m1, add_nIc, add_cnI, bd_v, reduceCtorEq, eqFcc, m1e0, m1e1, m1l0, m1g0, m2l0, m2g0, Int32.reduceLT, Int32.reduceLE, Int32.reduceAdd, Int32.reduceSub, Int32.reduceMul, eq_self, Bool.false_eq_true, eq_true hy6]
          rw [if_neg k3]
          refine ok_call (c_sheet hn hk hm hc.1.2.1) (fun M1 g => ?_)
          simp (disch := omega) only [↓reduceIte, ic_t, ic_f, not_true_eq_false, not_false_eq_true, ↓lt_v, rdR, rdE, rdS, leT, leTc, leTd, leF, leFc, leFd, ltT, ltTc, ltTd, ltF, ltFc, ltFd, eqT, eqTc, eqTd, eqF, eqFc, eqFd, m1T, m1F, m1T', m1F', inb_nI, ix_nI, inb_c, ix_c, nI_1, nI_pred, nI_m1, add_nIc, add_cnI, bd_v, reduceCtorEq, eqFcc, m1e0, m1e1, m1l0, m1g0, m2l0, m2g0, Int32.reduceLT, Int32.reduceLE, Int32.reduceAdd, Int32.reduceSub, Int32.reduceMul, eq_self, Bool.false_eq_true, c_sumP hn g.1]
          exact ok_some ⟨rfl, hcr M1 g.1 g.2⟩
      · show Ok (fX10_sheet (nI kind) y f st M1) _
        have hr0 := h1
        have hz := (r_thrown0 h1.1).1
        have hsh := r_sheet (f := f) (st := st) (x2 := y) hn hk hm hy h3 hz.2.1 hz.2.2.1
        have fin : Ok (fX10_sheet_43 FU (nI kind) y st f 0 (sI M1 169 0 0)) (fun q => q.1 = (if kind = 3 then -3 else sumI (shV S.1.1 kind m f st S.1.2.1).1 S.1.1) ∧ RRel (setV S (shV S.1.1 kind m f st S.1.2.1)) q.2 ∧ RFr M1 q.2) := by
          refine ok_mono hsh (fun q g => ⟨g.1, ?_, fun a ha => ⟨?_, ?_⟩, ?_⟩)
          · have f1 : ∀ a, a ≠ 169 → a ≠ 171 → q.2.1 a = M1.1 a := fun a c1 c2 => by rw [g.2.2.1 a c1 c2, row_n c1]
            have f2 : ∀ i, i ≠ 0 → q.2.1 169 i = M1.1 169 i := fun i c1 => by rw [g.2.2.2.1 i (fun q => q), rdS c1]
            exact rrel_make hr0 ⟨rfl, rfl, rfl, rfl, rfl⟩ hw (fun a c1 c2 c3 _ => f1 a c1 c2) (fun i c1 c2 c3 => f2 i (fun q => c3 (by unfold SS; omega))) (f2 1 (by omega)) (by rw [g.2.2.2.2]; rfl) g.2.1 (psR_fr hr0.2.2.2.1 (f2 28 (by omega)) (f1 185 (by omega) (by omega)))
          · rw [g.2.2.1 a (by omega) (by omega), row_n (by omega)]
          · rw [g.2.2.2.2]; rfl
          · rw [g.2.2.2.2]; rfl
        rw [e_X10_sheet]
        by_cases k3 : kind = 3
        · simp (disch := omega) only [↓reduceIte, ic_t, ic_f, not_true_eq_false, not_false_eq_true, ↓lt_v, rdR, rdE, rdS, leT, leTc, leTd, leF, leFc, leFd, ltT, ltTc, ltTd, ltF, ltFc, ltFd, eqT, eqTc, eqTd, eqF, eqFc, eqFd, m1T, m1F, m1T', m1F', inb_nI, ix_nI, inb_c, ix_c, nI_1, nI_pred, nI_m1, add_nIc, add_cnI, bd_v, reduceCtorEq, eqFcc, m1e0, m1e1, m1l0, m1g0, m2l0, m2g0, Int32.reduceLT, Int32.reduceLE, Int32.reduceAdd, Int32.reduceSub, Int32.reduceMul, eq_self, Bool.false_eq_true, hi, eq_true hy6]
          exact fin
        · have hy0 : (0 : Int32) ≤ y := by rw [hy k3]; exact nI_pos' (by omega)
          simp (disch := omega) only [↓reduceIte, ic_t, ic_f, not_true_eq_false, not_false_eq_true, ↓lt_v, rdR, rdE, rdS, leT, leTc, leTd, leF, leFc, leFd, ltT, ltTc, ltTd, ltF, ltFc, ltFd, eqT, eqTc, eqTd, eqF, eqFc, eqFd, m1T, m1F, m1T', m1F', inb_nI, ix_nI, inb_c, ix_c, nI_1, nI_pred, nI_m1, add_nIc, add_cnI, bd_v, reduceCtorEq, eqFcc, m1e0, m1e1, m1l0, m1g0, m2l0, m2g0, Int32.reduceLT, Int32.reduceLE, Int32.reduceAdd, Int32.reduceSub, Int32.reduceMul, eq_self, Bool.false_eq_true, hi, eq_true hy6, eq_true hy0]
          exact fin
    by_cases hy6 : y ≤ 6
    · by_cases k3 : kind = 3
      · exact doit 0 (by omega) hy6 (fun h => absurd k3 h) (fun _ => rfl)
      · by_cases y0 : y < 0
        · have hny : ¬ (0 : Int32) ≤ y := fun q => by rw [Int32.lt_iff_toInt_lt] at y0; rw [Int32.le_iff_toInt_le] at q; omega
          refine st_no (x := -2) hS hc hr ?_ (fun M1 h1 => ?_)
          · show fX9_sheet (nI kind) y f st M = _
            rw [e_X9_sheet]
            simp (disch := omega) only [↓reduceIte, ic_t, ic_f, not_true_eq_false, not_false_eq_true, ↓lt_v, rdR, rdE, rdS, leT, leTc, leTd, leF, leFc, leFd, ltT, ltTc, ltTd, ltF, ltFc, ltFd, eqT, eqTc, eqTd, eqF, eqFc, eqFd, m1T, m1F, m1T', m1F', inb_nI, ix_nI, inb_c, ix_c, nI_1, nI_pred, nI_m1, add_nIc, add_cnI, bd_v, reduceCtorEq, eqFcc, m1e0, m1e1, m1l0, m1g0, m2l0, m2g0, Int32.reduceLT, Int32.reduceLE, Int32.reduceAdd, Int32.reduceSub, Int32.reduceMul, eq_self, Bool.false_eq_true, eq_true hy6, eq_false hny]
          · show fX10_sheet (nI kind) y f st M1 = _
            rw [e_X10_sheet]
            simp (disch := omega) only [↓reduceIte, ic_t, ic_f, not_true_eq_false, not_false_eq_true, ↓lt_v, rdR, rdE, rdS, leT, leTc, leTd, leF, leFc, leFd, ltT, ltTc, ltTd, ltF, ltFc, ltFd, eqT, eqTc, eqTd, eqF, eqFc, eqFd, m1T, m1F, m1T', m1F', inb_nI, ix_nI, inb_c, ix_c, nI_1, nI_pred, nI_m1, add_nIc, add_cnI, bd_v, reduceCtorEq, eqFcc, m1e0, m1e1, m1l0, m1g0, m2l0, m2g0, Int32.reduceLT, Int32.reduceLE, Int32.reduceAdd, Int32.reduceSub, Int32.reduceMul, eq_self, Bool.false_eq_true, hi, eq_true hy6, eq_false hny]
        · obtain ⟨m, hm, rfl⟩ := nI_of y0
          have hm6 : m ≤ 6 := by rw [show (6 : Int32) = nI 6 from rfl, le_nI hm (by omega)] at hy6; exact hy6
          exact doit m hm6 hy6 (fun _ => rfl) (fun h => absurd h k3)
    · refine st_no (x := -1) hS hc hr ?_ (fun M1 h1 => ?_)
      · show fX9_sheet (nI kind) y f st M = _
        rw [e_X9_sheet]
        simp (disch := omega) only [↓reduceIte, ic_t, ic_f, not_true_eq_false, not_false_eq_true, ↓lt_v, rdR, rdE, rdS, leT, leTc, leTd, leF, leFc, leFd, ltT, ltTc, ltTd, ltF, ltFc, ltFd, eqT, eqTc, eqTd, eqF, eqFc, eqFd, m1T, m1F, m1T', m1F', inb_nI, ix_nI, inb_c, ix_c, nI_1, nI_pred, nI_m1, add_nIc, add_cnI, bd_v, reduceCtorEq, eqFcc, m1e0, m1e1, m1l0, m1g0, m2l0, m2g0, Int32.reduceLT, Int32.reduceLE, Int32.reduceAdd, Int32.reduceSub, Int32.reduceMul, eq_self, Bool.false_eq_true, eq_false hy6]
      · show fX10_sheet (nI kind) y f st M1 = _
        rw [e_X10_sheet]
        simp (disch := omega) only [↓reduceIte, ic_t, ic_f, not_true_eq_false, not_false_eq_true, ↓lt_v, rdR, rdE, rdS, leT, leTc, leTd, leF, leFc, leFd, ltT, ltTc, ltTd, ltF, ltFc, ltFd, eqT, eqTc, eqTd, eqF, eqFc, eqFd, m1T, m1F, m1T', m1F', inb_nI, ix_nI, inb_c, ix_c, nI_1, nI_pred, nI_m1, add_nIc, add_cnI, bd_v, reduceCtorEq, eqFcc, m1e0, m1e1, m1l0, m1g0, m2l0, m2g0, Int32.reduceLT, Int32.reduceLE, Int32.reduceAdd, Int32.reduceSub, Int32.reduceMul, eq_self, Bool.false_eq_true, hi, eq_false hy6]
  · refine st_no (x := -1) hS hc hr ?_ (fun M1 h1 => ?_)
    · show fX9_sheet x y f st M = _
      rw [e_X9_sheet]
      by_cases y0 : x < 0
      · simp (disch := omega) only [↓reduceIte, ic_t, ic_f, not_true_eq_false, not_false_eq_true, ↓lt_v, rdR, rdE, rdS, leT, leTc, leTd, leF, leFc, leFd, ltT, ltTc, ltTd, ltF, ltFc, ltFd, eqT, eqTc, eqTd, eqF, eqFc, eqFd, m1T, m1F, m1T', m1F', inb_nI, ix_nI, inb_c, ix_c, nI_1, nI_pred, nI_m1, add_nIc, add_cnI, bd_v, reduceCtorEq, eqFcc, m1e0, m1e1, m1l0, m1g0, m2l0, m2g0, Int32.reduceLT, Int32.reduceLE, Int32.reduceAdd, Int32.reduceSub, Int32.reduceMul, eq_self, Bool.false_eq_true, eq_true y0]
      · rcases hx2 with q | q
        · exact absurd q y0
        · simp (disch := omega) only [↓reduceIte, ic_t, ic_f, not_true_eq_false, not_false_eq_true, ↓lt_v, rdR, rdE, rdS, leT, leTc, leTd, leF, leFc, leFd, ltT, ltTc, ltTd, ltF, ltFc, ltFd, eqT, eqTc, eqTd, eqF, eqFc, eqFd, m1T, m1F, m1T', m1F', inb_nI, ix_nI, inb_c, ix_c, nI_1, nI_pred, nI_m1, add_nIc, add_cnI, bd_v, reduceCtorEq, eqFcc, m1e0, m1e1, m1l0, m1g0, m2l0, m2g0, Int32.reduceLT, Int32.reduceLE, Int32.reduceAdd, Int32.reduceSub, Int32.reduceMul, eq_self, Bool.false_eq_true, eq_false y0, eq_true (show (3 : Int32) < x from q)]
    · have hi : ∀ M : Mem, fX10_in x.toInt64 0 3 M = some (0, M) := fun M => in_no (lo := 0) (hi := 3) (by decide) (by decide) hx
      show fX10_sheet x y f st M1 = _
      rw [e_X10_sheet]
      simp (disch := omega) only [↓reduceIte, ic_t, ic_f, not_true_eq_false, not_false_eq_true, ↓lt_v, rdR, rdE, rdS, leT, leTc, leTd, leF, leFc, leFd, ltT, ltTc, ltTd, ltF, ltFc, ltFd, eqT, eqTc, eqTd, eqF, eqFc, eqFd, m1T, m1F, m1T', m1F', inb_nI, ix_nI, inb_c, ix_c, nI_1, nI_pred, nI_m1, add_nIc, add_cnI, bd_v, reduceCtorEq, eqFcc, m1e0, m1e1, m1l0, m1g0, m2l0, m2g0, Int32.reduceLT, Int32.reduceLE, Int32.reduceAdd, Int32.reduceSub, Int32.reduceMul, eq_self, Bool.false_eq_true, hi]
