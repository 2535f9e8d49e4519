/-! PURE: best -/
def pc (n d pl : Nat) (m i : Nat) : Nat := sm m (fun j => if dayN n j ≤ d ∧ un n j i = pl then 1 else 0)
theorem pc_succ {n d pl m i : Nat} : pc n d pl (m + 1) i = pc n d pl m i + (if dayN n m ≤ d ∧ un n m i = pl then 1 else 0) := rfl
theorem pc_le {n d pl m i : Nat} : pc n d pl m i ≤ m := sm_01 (P := fun j => dayN n j ≤ d ∧ un n j i = pl) m
theorem c_countPlaces {M : Mem} {n d pl : Nat} (hn : n ≤ 6) (hd : d ≤ 6) (hp : pl < 6) (hl : LawA n M) : Ok (fX1_countPlaces (nI pl) (nI d) M) (fun M' => (∀ i, i < n → M'.1 138 i = nI (pc n d pl (fac n) i)) ∧ Fr (fun a => a = 138 ∨ a = 139) M M') := by
  have hfl := fac_le hn
  rw [e_X1_countPlaces]
  have hFU : 2000 < FU := FU_big
  generalize FU = fu0 at hFU ⊢
  refine ok_loop n (fun fu k s => fX1_countPlaces_2 fu (nI pl) (nI d) (nI k) s) (fun k s => (∀ i, i < k → s.1 138 i = nI 0) ∧ Fr (fun a => a = 138 ∨ a = 139) M s) ?_ ?_ fu0 0 M (by omega) (by omega) ⟨fun i hi => absurd hi (Nat.not_lt_zero _), fr_rfl⟩
  · intro fu k s hk hs ih
    obtain ⟨b1, b2⟩ := hs
    have t0 : s.1 115 0 = nI n := by rw [b2.1 115 (by omega)]; exact hl.1
    rw [e_X1_countPlaces_2]
    simp (disch := omega) only [↓reduceIte, ic_t, ic_f, not_true_eq_false, not_false_eq_true, ↓lt_v, rdR, rdE, rdS, leT, leTc, leTd, leF, leFc, leFd, ltT, ltTc, ltTd, ltF, ltFc, ltFd, eqT, eqTc, eqTd, eqF, eqFc, eqFd, m1T, m1F, m1T', m1F', inb_nI, ix_nI, inb_c, ix_c, nI_1, nI_pred, nI_m1, add_nIc, add_cnI, bd_v, reduceCtorEq, eqFcc, m1e0, m1e1, m1l0, m1g0, m2l0, m2g0, Int32.reduceLT, Int32.reduceLE, Int32.reduceAdd, Int32.reduceSub, Int32.reduceMul, eq_self, Bool.false_eq_true, t0]
    refine ih _ ⟨fun i hi => ?_, fr_trans b2 (fr_sI (by omega))⟩
    by_cases e : i = k
    · subst e; simp (disch := omega) only [↓reduceIte, ic_t, ic_f, not_true_eq_false, not_false_eq_true, ↓lt_v, rdR, rdE, rdS, leT, leTc, leTd, leF, leFc, leFd, ltT, ltTc, ltTd, ltF, ltFc, ltFd, eqT, eqTc, eqTd, eqF, eqFc, eqFd, m1T, m1F, m1T', m1F', inb_nI, ix_nI, inb_c, ix_c, nI_1, nI_pred, nI_m1, add_nIc, add_cnI, bd_v, reduceCtorEq, eqFcc, m1e0, m1e1, m1l0, m1g0, m2l0, m2g0, Int32.reduceLT, Int32.reduceLE, Int32.reduceAdd, Int32.reduceSub, Int32.reduceMul, eq_self, Bool.false_eq_true]
    · simp (disch := omega) only [↓reduceIte, ic_t, ic_f, not_true_eq_false, not_false_eq_true, ↓lt_v, rdR, rdE, rdS, leT, leTc, leTd, leF, leFc, leFd, ltT, ltTc, ltTd, ltF, ltFc, ltFd, eqT, eqTc, eqTd, eqF, eqFc, eqFd, m1T, m1F, m1T', m1F', inb_nI, ix_nI, inb_c, ix_c, nI_1, nI_pred, nI_m1, add_nIc, add_cnI, bd_v, reduceCtorEq, eqFcc, m1e0, m1e1, m1l0, m1g0, m2l0, m2g0, Int32.reduceLT, Int32.reduceLE, Int32.reduceAdd, Int32.reduceSub, Int32.reduceMul, eq_self, Bool.false_eq_true]; exact b1 i (by omega)
  · intro fu s hs
    obtain ⟨b1, b2⟩ := hs
    have t0 : s.1 115 0 = nI n := by rw [b2.1 115 (by omega)]; exact hl.1
    rw [e_X1_countPlaces_2]
    simp (disch := omega) only [↓reduceIte, ic_t, ic_f, not_true_eq_false, not_false_eq_true, ↓lt_v, rdR, rdE, rdS, leT, leTc, leTd, leF, leFc, leFd, ltT, ltTc, ltTd, ltF, ltFc, ltFd, eqT, eqTc, eqTd, eqF, eqFc, eqFd, m1T, m1F, m1T', m1F', inb_nI, ix_nI, inb_c, ix_c, nI_1, nI_pred, nI_m1, add_nIc, add_cnI, bd_v, reduceCtorEq, eqFcc, m1e0, m1e1, m1l0, m1g0, m2l0, m2g0, Int32.reduceLT, Int32.reduceLE, Int32.reduceAdd, Int32.reduceSub, Int32.reduceMul, eq_self, Bool.false_eq_true, t0]
    have hFU2 : 2000 < FU := FU_big
    generalize FU = fu2 at hFU2 ⊢
    refine ok_loop (fac n) (fun fu j s => fX1_countPlaces_25 fu (nI pl) (nI d) (nI j) s) (fun j s => (∀ i, i < n → s.1 138 i = nI (pc n d pl j i)) ∧ Fr (fun a => a = 138 ∨ a = 139) M s) ?_ ?_ fu2 0 s (by omega) (by omega) ⟨b1, b2⟩
    · intro fu j s hj hs ih
      obtain ⟨w1, w2⟩ := hs
      have t1 : s.1 115 1 = nI (fac n) := by rw [w2.1 115 (by omega)]; exact hl.2.1
      have t0 : s.1 115 0 = nI n := by rw [w2.1 115 (by omega)]; exact hl.1
      have td : s.1 137 j = nI (dayN n j) := by rw [w2.1 137 (by omega)]; exact hl.2.2.2.2.2 j hj
      have dl := dayN_lt (n := n) (j := j)
      rw [e_X1_countPlaces_25]
      by_cases c : dayN n j ≤ d
      · simp (disch := omega) only [↓reduceIte, ic_t, ic_f, not_true_eq_false, not_false_eq_true, ↓lt_v, rdR, rdE, rdS, leT, leTc, leTd, leF, leFc, leFd, ltT, ltTc, ltTd, ltF, ltFc, ltFd, eqT, eqTc, eqTd, eqF, eqFc, eqFd, m1T, m1F, m1T', m1F', inb_nI, ix_nI, inb_c, ix_c, nI_1, nI_pred, nI_m1, add_nIc, add_cnI, bd_v, reduceCtorEq, eqFcc, m1e0, m1e1, m1l0, m1g0, m2l0, m2g0, Int32.reduceLT, Int32.reduceLE, Int32.reduceAdd, Int32.reduceSub, Int32.reduceMul, eq_self, Bool.false_eq_true, t1, td]
        refine ok_call (c_unpack hn hj t0 t1) (fun M1 h => ?_)
        obtain ⟨h1, h2⟩ := h
        have hpm := (chk1_n hn hj).1
        have hFU3 : 2000 < FU := FU_big
        generalize FU = fu3 at hFU3 ⊢
        refine ok_loop n (fun fu3 k s => fX1_countPlaces_51 (fX1_countPlaces_25 fu) fu3 (nI pl) (nI d) (nI j) (nI k) s) (fun k s => (∀ i, i < n → s.1 138 i = nI (if i < k then pc n d pl (j + 1) i else pc n d pl j i)) ∧ (∀ i, i < n → s.1 139 i = nI (un n j i)) ∧ Fr (fun a => a = 138 ∨ a = 139) M s) ?_ ?_ fu3 0 M1 (by omega) (by omega) ⟨fun i hi => by rw [if_neg (by omega), h2.1 138 (by omega)]; exact w1 i hi, h1, fr_trans w2 (fr_sub h2 (fun a ha => by omega))⟩
        · intro fu3 k s hk hs ih2
          obtain ⟨v1, v2, v3⟩ := hs
          have u0 : s.1 115 0 = nI n := by rw [v3.1 115 (by omega)]; exact hl.1
          have u1 := v2 k hk
          have u2 := v1 k hk
          have hu := hpm.1 k hk
          have pl1 := pc_le (n := n) (d := d) (pl := pl) (m := j) (i := k)
          rw [if_neg (by omega)] at u2
          have ps := pc_succ (n := n) (d := d) (pl := pl) (m := j) (i := k)
          rw [e_X1_countPlaces_51]
          by_cases c2 : un n j k = pl
          · rw [if_pos ⟨c, c2⟩] at ps
            simp (disch := omega) only [↓reduceIte, ic_t, ic_f, not_true_eq_false, not_false_eq_true, ↓lt_v, rdR, rdE, rdS, leT, leTc, leTd, leF, leFc, leFd, ltT, ltTc, ltTd, ltF, ltFc, ltFd, eqT, eqTc, eqTd, eqF, eqFc, eqFd, m1T, m1F, m1T', m1F', inb_nI, ix_nI, inb_c, ix_c, nI_1, nI_pred, nI_m1, add_nIc, add_cnI, bd_v, reduceCtorEq, eqFcc, m1e0, m1e1, m1l0, m1g0, m2l0, m2g0, Int32.reduceLT, Int32.reduceLE, Int32.reduceAdd, Int32.reduceSub, Int32.reduceMul, eq_self, Bool.false_eq_true, u0, u1, u2]
            refine ih2 _ ⟨fun i hi => ?_, fun i hi => by simp (disch := omega) only [↓reduceIte, ic_t, ic_f, not_true_eq_false, not_false_eq_true, ↓lt_v, rdR, rdE, rdS, leT, leTc, leTd, leF, leFc, leFd, ltT, ltTc, ltTd, ltF, ltFc, ltFd, eqT, eqTc, eqTd, eqF, eqFc, eqFd, m1T, m1F, m1T', m1F', inb_nI, ix_nI, inb_c, ix_c, nI_1, nI_pred, nI_m1, add_nIc, add_cnI, bd_v, reduceCtorEq, eqFcc, m1e0, m1e1, m1l0, m1g0, m2l0, m2g0, Int32.reduceLT, Int32.reduceLE, Int32.reduceAdd, Int32.reduceSub, Int32.reduceMul, eq_self, Bool.false_eq_true]; exact v2 i hi, fr_trans v3 (fr_sI (by omega))⟩
            by_cases e : i = k
            · subst e
              rw [if_pos (by omega), ps]
              simp (disch := omega) only [↓reduceIte, ic_t, ic_f, not_true_eq_false, not_false_eq_true, ↓lt_v, rdR, rdE, rdS, leT, leTc, leTd, leF, leFc, leFd, ltT, ltTc, ltTd, ltF, ltFc, ltFd, eqT, eqTc, eqTd, eqF, eqFc, eqFd, m1T, m1F, m1T', m1F', inb_nI, ix_nI, inb_c, ix_c, nI_1, nI_pred, nI_m1, add_nIc, add_cnI, bd_v, reduceCtorEq, eqFcc, m1e0, m1e1, m1l0, m1g0, m2l0, m2g0, Int32.reduceLT, Int32.reduceLE, Int32.reduceAdd, Int32.reduceSub, Int32.reduceMul, eq_self, Bool.false_eq_true]
            · simp (disch := omega) only [↓reduceIte, ic_t, ic_f, not_true_eq_false, not_false_eq_true, ↓lt_v, rdR, rdE, rdS, leT, leTc, leTd, leF, leFc, leFd, ltT, ltTc, ltTd, ltF, ltFc, ltFd, eqT, eqTc, eqTd, eqF, eqFc, eqFd, m1T, m1F, m1T', m1F', inb_nI, ix_nI, inb_c, ix_c, nI_1, nI_pred, nI_m1, add_nIc, add_cnI, bd_v, reduceCtorEq, eqFcc, m1e0, m1e1, m1l0, m1g0, m2l0, m2g0, Int32.reduceLT, Int32.reduceLE, Int32.reduceAdd, Int32.reduceSub, Int32.reduceMul, eq_self, Bool.false_eq_true]
              rw [v1 i hi]
              by_cases c4 : i < k
              · rw [if_pos c4, if_pos (by omega)]
              · rw [if_neg c4, if_neg (by omega)]
          · rw [if_neg (fun q => c2 q.2)] at ps
            simp (disch := omega) only [↓reduceIte, ic_t, ic_f, not_true_eq_false, not_false_eq_true, ↓lt_v, rdR, rdE, rdS, leT, leTc, leTd, leF, leFc, leFd, ltT, ltTc, ltTd, ltF, ltFc, ltFd, eqT, eqTc, eqTd, eqF, eqFc, eqFd, m1T, m1F, m1T', m1F', inb_nI, ix_nI, inb_c, ix_c, nI_1, nI_pred, nI_m1, add_nIc, add_cnI, bd_v, reduceCtorEq, eqFcc, m1e0, m1e1, m1l0, m1g0, m2l0, m2g0, Int32.reduceLT, Int32.reduceLE, Int32.reduceAdd, Int32.reduceSub, Int32.reduceMul, eq_self, Bool.false_eq_true, u0, u1, u2]
            refine ih2 _ ⟨fun i hi => ?_, fun i hi => by simp (disch := omega) only [↓reduceIte, ic_t, ic_f, not_true_eq_false, not_false_eq_true, ↓lt_v, rdR, rdE, rdS, leT, leTc, leTd, leF, leFc, leFd, ltT, ltTc, ltTd, ltF, ltFc, ltFd, eqT, eqTc, eqTd, eqF, eqFc, eqFd, m1T, m1F, m1T', m1F', inb_nI, ix_nI, inb_c, ix_c, nI_1, nI_pred, nI_m1, add_nIc, add_cnI, bd_v, reduceCtorEq, eqFcc, m1e0, m1e1, m1l0, m1g0, m2l0, m2g0, Int32.reduceLT, Int32.reduceLE, Int32.reduceAdd, Int32.reduceSub, Int32.reduceMul, eq_self, Bool.false_eq_true]; exact v2 i hi, fr_trans v3 (fr_sI (by omega))⟩
            by_cases e : i = k
            · subst e
              rw [if_pos (by omega), ps]
              simp (disch := omega) only [↓reduceIte, ic_t, ic_f, not_true_eq_false, not_false_eq_true, ↓lt_v, rdR, rdE, rdS, leT, leTc, leTd, leF, leFc, leFd, ltT, ltTc, ltTd, ltF, ltFc, ltFd, eqT, eqTc, eqTd, eqF, eqFc, eqFd, m1T, m1F, m1T', m1F', inb_nI, ix_nI, inb_c, ix_c, nI_1, nI_pred, nI_m1, add_nIc, add_cnI, bd_v, reduceCtorEq, eqFcc, m1e0, m1e1, m1l0, m1g0, m2l0, m2g0, Int32.reduceLT, Int32.reduceLE, Int32.reduceAdd, Int32.reduceSub, Int32.reduceMul, eq_self, Bool.false_eq_true]
            · simp (disch := omega) only [↓reduceIte, ic_t, ic_f, not_true_eq_false, not_false_eq_true, ↓lt_v, rdR, rdE, rdS, leT, leTc, leTd, leF, leFc, leFd, ltT, ltTc, ltTd, ltF, ltFc, ltFd, eqT, eqTc, eqTd, eqF, eqFc, eqFd, m1T, m1F, m1T', m1F', inb_nI, ix_nI, inb_c, ix_c, nI_1, nI_pred, nI_m1, add_nIc, add_cnI, bd_v, reduceCtorEq, eqFcc, m1e0, m1e1, m1l0, m1g0, m2l0, m2g0, Int32.reduceLT, Int32.reduceLE, Int32.reduceAdd, Int32.reduceSub, Int32.reduceMul, eq_self, Bool.false_eq_true]
              rw [v1 i hi]
              by_cases c4 : i < k
              · rw [if_pos c4, if_pos (by omega)]
              · rw [if_neg c4, if_neg (by omega)]
        · intro fu3 s hs
          obtain ⟨v1, v2, v3⟩ := hs
          have u0 : s.1 115 0 = nI n := by rw [v3.1 115 (by omega)]; exact hl.1
          rw [e_X1_countPlaces_51]
          simp (disch := omega) only [↓reduceIte, ic_t, ic_f, not_true_eq_false, not_false_eq_true, ↓lt_v, rdR, rdE, rdS, leT, leTc, leTd, leF, leFc, leFd, ltT, ltTc, ltTd, ltF, ltFc, ltFd, eqT, eqTc, eqTd, eqF, eqFc, eqFd, m1T, m1F, m1T', m1F', inb_nI, ix_nI, inb_c, ix_c, nI_1, nI_pred, nI_m1, add_nIc, add_cnI, bd_v, reduceCtorEq, eqFcc, m1e0, m1e1, m1l0, m1g0, m2l0, m2g0, Int32.reduceLT, Int32.reduceLE, Int32.reduceAdd, Int32.reduceSub, Int32.reduceMul, eq_self, Bool.false_eq_true, u0]
          exact ih s ⟨fun i hi => by rw [v1 i hi, if_pos hi], v3⟩
      · simp (disch := omega) only [↓reduceIte, ic_t, ic_f, not_true_eq_false, not_false_eq_true, ↓lt_v, rdR, rdE, rdS, leT, leTc, leTd, leF, leFc, leFd, ltT, ltTc, ltTd, ltF, ltFc, ltFd, eqT, eqTc, eqTd, eqF, eqFc, eqFd, m1T, m1F, m1T', m1F', inb_nI, ix_nI, inb_c, ix_c, nI_1, nI_pred, nI_m1, add_nIc, add_cnI, bd_v, reduceCtorEq, eqFcc, m1e0, m1e1, m1l0, m1g0, m2l0, m2g0, Int32.reduceLT, Int32.reduceLE, Int32.reduceAdd, Int32.reduceSub, Int32.reduceMul, eq_self, Bool.false_eq_true, t1, td]
        refine ih s ⟨fun i hi => ?_, w2⟩
        rw [pc_succ, if_neg (fun q => c q.1)]
        exact w1 i hi
    · intro fu s hs
      obtain ⟨w1, w2⟩ := hs
      have t1 : s.1 115 1 = nI (fac n) := by rw [w2.1 115 (by omega)]; exact hl.2.1
      rw [e_X1_countPlaces_25]
      simp (disch := omega) only [↓reduceIte, ic_t, ic_f, not_true_eq_false, not_false_eq_true, ↓lt_v, rdR, rdE, rdS, leT, leTc, leTd, leF, leFc, leFd, ltT, ltTc, ltTd, ltF, ltFc, ltFd, eqT, eqTc, eqTd, eqF, eqFc, eqFd, m1T, m1F, m1T', m1F', inb_nI, ix_nI, inb_c, ix_c, nI_1, nI_pred, nI_m1, add_nIc, add_cnI, bd_v, reduceCtorEq, eqFcc, m1e0, m1e1, m1l0, m1g0, m2l0, m2g0, Int32.reduceLT, Int32.reduceLE, Int32.reduceAdd, Int32.reduceSub, Int32.reduceMul, eq_self, Bool.false_eq_true, t1]
      exact ok_some ⟨w1, w2⟩
/-- the first and the last place with a count -/
def Ext (n : Nat) (C : Nat → Nat) (L mo : Nat) : Prop := L < n ∧ 0 < C L ∧ (∀ i, i < L → C i = 0) ∧ mo < n ∧ 0 < C mo ∧ ∀ i, mo < i → i < n → C i = 0
theorem ext_u {n L mo L' mo' : Nat} {C : Nat → Nat} (h : Ext n C L mo) (h' : Ext n C L' mo') : L = L' ∧ mo = mo' := by
  obtain ⟨a1, a2, a3, a4, a5, a6⟩ := h
  obtain ⟨b1, b2, b3, b4, b5, b6⟩ := h'
  constructor
  · rcases Nat.lt_trichotomy L L' with q | q | q
    · have := b3 L q; omega
    · exact q
    · have := a3 L' q; omega
  · rcases Nat.lt_trichotomy mo mo' with q | q | q
    · have := a6 mo' q b4; omega
    · exact q
    · have := b6 mo q a4; omega
theorem c_best104 {M : Mem} {n L mo : Nat} {C : Nat → Nat} (hn : n ≤ 6) (h0 : M.1 6 0 = nI n) (hC : ∀ i, i < n → M.1 138 i = nI (C i) ∧ C i ≤ 720) (hE : Ext n C L mo) : ∀ d k fu (x4 : Int32), k + d = n → d + 1 ≤ fu → (mo < k → x4 = nI mo) → fX9_best_104 fu (nI L) x4 (nI k) M = (fX5_tellBoth (nI mo).toInt64 (nI (C L)).toInt64 M).bind fun q22 => some (nI L, q22) := by
  obtain ⟨a1, a2, a3, a4, a5, a6⟩ := hE
  intro d
  induction d with
  | zero =>
    intro k fu x4 hk hfu hx
    obtain ⟨fu, rfl⟩ : ∃ m, fu = m + 1 := ⟨fu - 1, by omega⟩
    have e := (hC L a1).1
    rw [e_X9_best_104, hx (by omega)]
    simp (disch := omega) only [↓reduceIte, ic_t, ic_f, not_true_eq_false, not_false_eq_true, ↓lt_v, leT, leTc, leTd, leF, leFc, leFd, ltT, ltTc, ltTd, ltF, ltFc, ltFd, eqT, eqTc, eqTd, eqF, eqFc, eqFd, m1T, m1F, m1T', m1F', inb_nI, ix_nI, inb_c, ix_c, nI_1, nI_pred, nI_m1, add_nIc, add_cnI, bd_v, reduceCtorEq, eqFcc, m1e0, m1e1, m1l0, m1g0, m2l0, m2g0, Int32.reduceLT, Int32.reduceLE, Int32.reduceAdd, Int32.reduceSub, Int32.reduceMul, eq_self, Bool.false_eq_true, h0, e]
  | succ d ih =>
    intro k fu x4 hk hfu hx
    obtain ⟨fu, rfl⟩ : ∃ m, fu = m + 1 := ⟨fu - 1, by omega⟩
    obtain ⟨e, el⟩ := hC k (by omega)
    rw [e_X9_best_104]
    by_cases c : C k ≤ 0
    · simp (disch := omega) only [↓reduceIte, ic_t, ic_f, not_true_eq_false, not_false_eq_true, ↓lt_v, leT, leTc, leTd, leF, leFc, leFd, ltT, ltTc, ltTd, ltF, ltFc, ltFd, eqT, eqTc, eqTd, eqF, eqFc, eqFd, m1T, m1F, m1T', m1F', inb_nI, ix_nI, inb_c, ix_c, nI_1, nI_pred, nI_m1, add_nIc, add_cnI, bd_v, reduceCtorEq, eqFcc, m1e0, m1e1, m1l0, m1g0, m2l0, m2g0, Int32.reduceLT, Int32.reduceLE, Int32.reduceAdd, Int32.reduceSub, Int32.reduceMul, eq_self, Bool.false_eq_true, h0, e]
      refine ih (k + 1) fu x4 (by omega) (by omega) (fun q => hx ?_)
      by_cases e2 : mo = k
      · subst e2; omega
      · omega
    · simp (disch := omega) only [↓reduceIte, ic_t, ic_f, not_true_eq_false, not_false_eq_true, ↓lt_v, leT, leTc, leTd, leF, leFc, leFd, ltT, ltTc, ltTd, ltF, ltFc, ltFd, eqT, eqTc, eqTd, eqF, eqFc, eqFd, m1T, m1F, m1T', m1F', inb_nI, ix_nI, inb_c, ix_c, nI_1, nI_pred, nI_m1, add_nIc, add_cnI, bd_v, reduceCtorEq, eqFcc, m1e0, m1e1, m1l0, m1g0, m2l0, m2g0, Int32.reduceLT, Int32.reduceLE, Int32.reduceAdd, Int32.reduceSub, Int32.reduceMul, eq_self, Bool.false_eq_true, h0, e]
      refine ih (k + 1) fu (nI k) (by omega) (by omega) (fun q => ?_)
      by_cases e2 : mo = k
      · rw [e2]
      · have := a6 k (by omega) (by omega); omega
theorem c_best70 {M : Mem} {n L mo : Nat} {C : Nat → Nat} (hn : n ≤ 6) (h0 : M.1 6 0 = nI n) (hC : ∀ i, i < n → M.1 138 i = nI (C i) ∧ C i ≤ 720) (hE : Ext n C L mo) : ∀ k fu (x3 : Int32), k ≤ n → k + 1 ≤ fu → (k ≤ L → x3 = nI L) → fX9_best_70 fu x3 0 (nI k - 1) M = (fX5_tellBoth (nI mo).toInt64 (nI (C L)).toInt64 M).bind fun q22 => some (nI L, q22) := by
  intro k
  induction k with
  | zero =>
    intro fu x3 hk hfu hx
    obtain ⟨fu, rfl⟩ : ∃ m, fu = m + 1 := ⟨fu - 1, by omega⟩
    rw [e_X9_best_70, hx (Nat.zero_le _)]
    simp (disch := omega) only [↓reduceIte, ic_t, ic_f, not_true_eq_false, not_false_eq_true, ↓lt_v, leT, leTc, leTd, leF, leFc, leFd, ltT, ltTc, ltTd, ltF, ltFc, ltFd, eqT, eqTc, eqTd, eqF, eqFc, eqFd, m1T, m1F, m1T', m1F', inb_nI, ix_nI, inb_c, ix_c, nI_1, nI_pred, nI_m1, add_nIc, add_cnI, bd_v, reduceCtorEq, eqFcc, m1e0, m1e1, m1l0, m1g0, m2l0, m2g0, Int32.reduceLT, Int32.reduceLE, Int32.reduceAdd, Int32.reduceSub, Int32.reduceMul, eq_self, Bool.false_eq_true]
    exact c_best104 hn h0 hC hE n 0 FU 0 (by omega) (by have := FU_big; omega) (fun q => absurd q (Nat.not_lt_zero _))
  | succ k ih =>
    intro fu x3 hk hfu hx
    obtain ⟨fu, rfl⟩ : ∃ m, fu = m + 1 := ⟨fu - 1, by omega⟩
    obtain ⟨e, el⟩ := hC k (by omega)
    rw [e_X9_best_70, nI_pred]
    by_cases c : C k ≤ 0
    · simp (disch := omega) only [↓reduceIte, ic_t, ic_f, not_true_eq_false, not_false_eq_true, ↓lt_v, leT, leTc, leTd, leF, leFc, leFd, ltT, ltTc, ltTd, ltF, ltFc, ltFd, eqT, eqTc, eqTd, eqF, eqFc, eqFd, m1T, m1F, m1T', m1F', inb_nI, ix_nI, inb_c, ix_c, nI_1, nI_pred, nI_m1, add_nIc, add_cnI, bd_v, reduceCtorEq, eqFcc, m1e0, m1e1, m1l0, m1g0, m2l0, m2g0, Int32.reduceLT, Int32.reduceLE, Int32.reduceAdd, Int32.reduceSub, Int32.reduceMul, eq_self, Bool.false_eq_true, e]
      refine ih fu x3 (by omega) (by omega) (fun q => hx ?_)
      by_cases e2 : k = L
      · subst e2; have := hE.2.1; omega
      · omega
    · simp (disch := omega) only [↓reduceIte, ic_t, ic_f, not_true_eq_false, not_false_eq_true, ↓lt_v, leT, leTc, leTd, leF, leFc, leFd, ltT, ltTc, ltTd, ltF, ltFc, ltFd, eqT, eqTc, eqTd, eqF, eqFc, eqFd, m1T, m1F, m1T', m1F', inb_nI, ix_nI, inb_c, ix_c, nI_1, nI_pred, nI_m1, add_nIc, add_cnI, bd_v, reduceCtorEq, eqFcc, m1e0, m1e1, m1l0, m1g0, m2l0, m2g0, Int32.reduceLT, Int32.reduceLE, Int32.reduceAdd, Int32.reduceSub, Int32.reduceMul, eq_self, Bool.false_eq_true, e]
      refine ih fu (nI k) (by omega) (by omega) (fun q => ?_)
      by_cases e2 : k = L
      · rw [e2]
      · have := hE.2.2.1 k (by omega); omega
