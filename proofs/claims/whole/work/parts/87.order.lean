/-! PURE: an order as a text -/
/-- the boats named at p, p + 1 .. p + k - 1, as bits -/
def oY (f : Nat → Nat) (p : Nat) : Nat → Nat
  | 0 => 0
  | k + 1 => oY f p k ||| (1 <<< (f (p + k) - 48))
/-- the sign at p + i names a boat that isn't named before it -/
def oG (L n : Nat) (f : Nat → Nat) (p i : Nat) : Prop := p + i < L ∧ 48 ≤ f (p + i) ∧ f (p + i) < 48 + n ∧ (oY f p i).testBit (f (p + i) - 48) = false
theorem oY_b {L n p : Nat} {f : Nat → Nat} (hn : n ≤ 6) : ∀ k, (∀ i, i < k → oG L n f p i) → oY f p k < 64 ∧ ∀ c, c < 6 → ((oY f p k).testBit c = true ↔ ∃ i, i < k ∧ f (p + i) - 48 = c)
  | 0, _ => ⟨by show 0 < 64; omega, fun c _ => ⟨fun h => by simp [oY] at h, fun ⟨i, hi, _⟩ => absurd hi (Nat.not_lt_zero _)⟩⟩
  | k + 1, h => by
    obtain ⟨h1, h2⟩ := oY_b hn k (fun i hi => h i (by omega))
    have hk := h k (by omega)
    have hd : f (p + k) - 48 < 6 := by have := hk.2.1; have := hk.2.2.1; omega
    obtain ⟨⟨_, b2⟩, b3⟩ := bt_or _ h1 _ hd
    refine ⟨b2, fun c hc => ?_⟩
    show (oY f p k ||| (1 <<< (f (p + k) - 48))).testBit c = true ↔ _
    rw [b3 c hc, Bool.or_eq_true, decide_eq_true_eq, h2 c hc]
    constructor
    · rintro (⟨i, hi, e⟩ | e)
      · exact ⟨i, by omega, e⟩
      · exact ⟨k, by omega, e.symm⟩
    · rintro ⟨i, hi, e⟩
      by_cases c : i = k
      · subst c; exact Or.inr e.symm
      · exact Or.inl ⟨i, by omega, e⟩
theorem or_ex {L n p : Nat} {f : Nat → Nat} : ∃ K, K ≤ n ∧ (∀ i, i < K → oG L n f p i) ∧ (K = n ∨ (K < n ∧ ¬ oG L n f p K)) := by
  have : ∀ d k, k + d = n → (∀ i, i < k → oG L n f p i) → ∃ K, K ≤ n ∧ (∀ i, i < K → oG L n f p i) ∧ (K = n ∨ (K < n ∧ ¬ oG L n f p K)) := by
    intro d
    induction d with
    | zero => intro k hk h; exact ⟨k, by omega, h, Or.inl hk⟩
    | succ d ih =>
      intro k hk h
      by_cases c : oG L n f p k
      · refine ih (k + 1) (by omega) (fun i hi => ?_)
        by_cases e : i = k
        · rw [e]; exact c
        · exact h i (by omega)
      · exact ⟨k, by omega, h, Or.inr ⟨by omega, c⟩⟩
  exact this n 0 (by omega) (fun i hi => absurd hi (Nat.not_lt_zero _))
theorem c_readOrder {M : Mem} {L n p K : Nat} {f : Nat → Nat} (hn : n ≤ 6) (hp : p ≤ 100) (hT : TxC L f M) (h6 : M.1 6 0 = nI n) (hK : K ≤ n) (hall : ∀ i, i < K → oG L n f p i) (hend : K = n ∨ (K < n ∧ ¬ oG L n f p K)) : Ok (fX9_readOrder (nI p) M) (fun q => q.1 = (if K = n then -1 else nI (p + K)) ∧ (∀ i, i < K → q.2.1 142 i = nI (f (p + i) - 48)) ∧ Fr (fun a => a = 142) M q.2) := by
  have h80 := hT.1
  rw [e_X9_readOrder]
  have hFU : 2000 < FU := FU_big
  generalize FU = fu0 at hFU ⊢
  refine ok_loop K (fun fu k s => fX9_readOrder_4 fu (nI p) (nI (oY f p k)) (nI k) s) (fun k s => (∀ i, i < k → s.1 142 i = nI (f (p + i) - 48)) ∧ Fr (fun a => a = 142) M s) ?_ ?_ fu0 0 M (by omega) (by omega) ⟨fun i hi => absurd hi (Nat.not_lt_zero _), fr_rfl⟩
  · intro fu k s hk hs ih
    obtain ⟨b1, b2⟩ := hs
    obtain ⟨g1, g2, g3, g4⟩ := hall k hk
    have ht : TxC L f s := txC_fr hT (b2.1 2 (by omega)) (b2.1 3 (by omega))
    have s6 : s.1 6 0 = nI n := by rw [b2.1 6 (by omega)]; exact h6
    have hd := c_digitAt (p := p + k) ht (by omega)
    rw [if_pos ⟨g1, isD_t (by omega)⟩] at hd
    obtain ⟨y1, y2⟩ := oY_b (L := L) hn k (fun i hi => hall i (by omega))
    have hbit := bt_bit _ y1 (f (p + k) - 48) (by omega)
    have hor := (bt_or _ y1 (f (p + k) - 48) (by omega)).1.1
    rw [g4] at hbit
    have b0 : bI false = 0 := rfl
    rw [b0] at hbit
    rw [e_X9_readOrder_4]
    simp (disch := omega) only [↓reduceIte, ic_t, ic_f, not_true_eq_false, not_false_eq_true, ↓lt_v, rdR, rdE, rdS, leT, leTc, leTd, leF, leFc, leFd, ltT, ltTc, ltTd, ltF, ltFc, ltFd, eqT, eqTc, eqTd, eqF, eqFc, eqFd, m1T, m1F, m1T', m1F', inb_nI, ix_nI, inb_c, ix_c, nI_1, nI_pred, nI_m1, add_nIc, add_cnI, bd_v, reduceCtorEq, eqFcc, m1e0, m1e1, m1l0, m1g0, m2l0, m2g0, Int32.reduceLT, Int32.reduceLE, Int32.reduceAdd, Int32.reduceSub, Int32.reduceMul, eq_self, Bool.false_eq_true, s6, nI_add, hd, e_X4_has, hbit, hor]
    refine ih _ ⟨fun i hi => ?_, fr_trans b2 (fr_sI rfl)⟩
    by_cases e : i = k
    · subst e; simp (disch := omega) only [↓reduceIte, ic_t, ic_f, not_true_eq_false, not_false_eq_true, ↓lt_v, rdR, rdE, rdS, leT, leTc, leTd, leF, leFc, leFd, ltT, ltTc, ltTd, ltF, ltFc, ltFd, eqT, eqTc, eqTd, eqF, eqFc, eqFd, m1T, m1F, m1T', m1F', inb_nI, ix_nI, inb_c, ix_c, nI_1, nI_pred, nI_m1, add_nIc, add_cnI, bd_v, reduceCtorEq, eqFcc, m1e0, m1e1, m1l0, m1g0, m2l0, m2g0, Int32.reduceLT, Int32.reduceLE, Int32.reduceAdd, Int32.reduceSub, Int32.reduceMul, eq_self, Bool.false_eq_true]
    · simp (disch := omega) only [↓reduceIte, ic_t, ic_f, not_true_eq_false, not_false_eq_true, ↓lt_v, rdR, rdE, rdS, leT, leTc, leTd, leF, leFc, leFd, ltT, ltTc, ltTd, ltF, ltFc, ltFd, eqT, eqTc, eqTd, eqF, eqFc, eqFd, m1T, m1F, m1T', m1F', inb_nI, ix_nI, inb_c, ix_c, nI_1, nI_pred, nI_m1, add_nIc, add_cnI, bd_v, reduceCtorEq, eqFcc, m1e0, m1e1, m1l0, m1g0, m2l0, m2g0, Int32.reduceLT, Int32.reduceLE, Int32.reduceAdd, Int32.reduceSub, Int32.reduceMul, eq_self, Bool.false_eq_true]; exact b1 i (by omega)
  · intro fu s hs
    obtain ⟨b1, b2⟩ := hs
    have s6 : s.1 6 0 = nI n := by rw [b2.1 6 (by omega)]; exact h6
    rw [e_X9_readOrder_4]
    rcases hend with e | ⟨e, hno⟩
    · rw [if_pos e]
      simp (disch := omega) only [↓reduceIte, ic_t, ic_f, not_true_eq_false, not_false_eq_true, ↓lt_v, rdR, rdE, rdS, leT, leTc, leTd, leF, leFc, leFd, ltT, ltTc, ltTd, ltF, ltFc, ltFd, eqT, eqTc, eqTd, eqF, eqFc, eqFd, m1T, m1F, m1T', m1F', inb_nI, ix_nI, inb_c, ix_c, nI_1, nI_pred, nI_m1, add_nIc, add_cnI, bd_v, reduceCtorEq, eqFcc, m1e0, m1e1, m1l0, m1g0, m2l0, m2g0, Int32.reduceLT, Int32.reduceLE, Int32.reduceAdd, Int32.reduceSub, Int32.reduceMul, eq_self, Bool.false_eq_true, s6]
      exact ok_some ⟨rfl, b1, b2⟩
    · rw [if_neg (by omega)]
      have ht : TxC L f s := txC_fr hT (b2.1 2 (by omega)) (b2.1 3 (by omega))
      have hd := c_digitAt (p := p + K) ht (by omega)
      by_cases c1 : p + K < L ∧ isD (f (p + K)) = true
      · rw [if_pos c1] at hd
        have i1 := isD_i c1.2
        by_cases c2 : f (p + K) < 48 + n
        · obtain ⟨y1, y2⟩ := oY_b (L := L) hn K hall
          have hbit := bt_bit _ y1 (f (p + K) - 48) (by omega)
          have : (oY f p K).testBit (f (p + K) - 48) = true := by
            cases hh : (oY f p K).testBit (f (p + K) - 48)
            · exact absurd ⟨c1.1, by omega, c2, hh⟩ hno
            · rfl
          have b1' : bI true = 1 := rfl
          rw [this, b1'] at hbit
          simp (disch := omega) only [↓reduceIte, ic_t, ic_f, not_true_eq_false, not_false_eq_true, ↓lt_v, rdR, rdE, rdS, leT, leTc, leTd, leF, leFc, leFd, ltT, ltTc, ltTd, ltF, ltFc, ltFd, eqT, eqTc, eqTd, eqF, eqFc, eqFd, m1T, m1F, m1T', m1F', inb_nI, ix_nI, inb_c, ix_c, nI_1, nI_pred, nI_m1, add_nIc, add_cnI, bd_v, reduceCtorEq, eqFcc, m1e0, m1e1, m1l0, m1g0, m2l0, m2g0, Int32.reduceLT, Int32.reduceLE, Int32.reduceAdd, Int32.reduceSub, Int32.reduceMul, eq_self, Bool.false_eq_true, s6, nI_add, hd, e_X4_has, hbit]
          exact ok_some ⟨rfl, b1, b2⟩
        · simp (disch := omega) only [↓reduceIte, ic_t, ic_f, not_true_eq_false, not_false_eq_true, ↓lt_v, rdR, rdE, rdS, leT, leTc, leTd, leF, leFc, leFd, ltT, ltTc, ltTd, ltF, ltFc, ltFd, eqT, eqTc, eqTd, eqF, eqFc, eqFd, m1T, m1F, m1T', m1F', inb_nI, ix_nI, inb_c, ix_c, nI_1, nI_pred, nI_m1, add_nIc, add_cnI, bd_v, reduceCtorEq, eqFcc, m1e0, m1e1, m1l0, m1g0, m2l0, m2g0, Int32.reduceLT, Int32.reduceLE, Int32.reduceAdd, Int32.reduceSub, Int32.reduceMul, eq_self, Bool.false_eq_true, s6, nI_add, hd, e_X4_has]
          exact ok_some ⟨rfl, b1, b2⟩
      · rw [if_neg c1] at hd
        simp (disch := omega) only [↓reduceIte, ic_t, ic_f, not_true_eq_false, not_false_eq_true, ↓lt_v, rdR, rdE, rdS, leT, leTc, leTd, leF, leFc, leFd, ltT, ltTc, ltTd, ltF, ltFc, ltFd, eqT, eqTc, eqTd, eqF, eqFc, eqFd, m1T, m1F, m1T', m1F', inb_nI, ix_nI, inb_c, ix_c, nI_1, nI_pred, nI_m1, add_nIc, add_cnI, bd_v, reduceCtorEq, eqFcc, m1e0, m1e1, m1l0, m1g0, m2l0, m2g0, Int32.reduceLT, Int32.reduceLE, Int32.reduceAdd, Int32.reduceSub, Int32.reduceMul, eq_self, Bool.false_eq_true, s6, nI_add, hd, e_X4_has]
        exact ok_some ⟨rfl, b1, b2⟩
theorem r_readsOrder {M : Mem} {m n p K a1 : Nat} {f : Nat → Nat} (hn : n ≤ 6) (hl : n ≤ ln a1) (hl2 : ln a1 ≤ 30) (ha : a1 ≠ 169) (ha' : a1 ≠ 173) (h : AtR p m f M) (h3 : M.1 169 3 = nI n) (hK : K ≤ n) (hall : ∀ i, i < K → oG m n f p i) (hend : K = n ∨ (K < n ∧ ¬ oG m n f p K)) : Ok (fX10_readsOrder a1 M) (fun q => q.1 = (if K = n then 1 else 0) ∧ (∀ i, i < K → q.2.1 a1 i = nI (f (p + i) - 48)) ∧ AtR (p + K) m f q.2 ∧ FrR (fun a => a = a1) (fun i => i = 9) M q.2) := by
  rw [e_X10_readsOrder]
  have hFU : 2000 < FU := FU_big
  generalize FU = fu0 at hFU ⊢
  refine ok_loop K (fun fu k s => fX10_readsOrder_4 fu a1 (nI (oY f p k)) (nI k) s) (fun k s => (∀ i, i < k → s.1 a1 i = nI (f (p + i) - 48)) ∧ AtR (p + k) m f s ∧ FrR (fun a => a = a1) (fun i => i = 9) M s) ?_ ?_ fu0 0 M (by omega) (by omega) ⟨fun i hi => absurd hi (Nat.not_lt_zero _), h, frR_rfl⟩
  · intro fu k s hk hs ih
    obtain ⟨b1, b2, b3⟩ := hs
    obtain ⟨g1, g2, g3, g4⟩ := hall k hk
    have s3 : s.1 169 3 = nI n := by rw [b3.2.1 3 (by omega)]; exact h3
    have hpr : nI n - 1 = nI (n - 1) := by rw [sub_nIc (by omega)]
    have hd : fX10_digitIn 0 (nI (n - 1)) s = _ := r_digitIn (lo := 0) (hi := n - 1) b2 (by omega) (by omega)
    rw [if_pos ⟨g1, by omega, by omega⟩] at hd
    obtain ⟨y1, y2⟩ := oY_b (L := m) hn k (fun i hi => hall i (by omega))
    have hbit := bt_bit _ y1 (f (p + k) - 48) (by omega)
    have hor := (bt_or _ y1 (f (p + k) - 48) (by omega)).1.1
    rw [g4] at hbit
    have b0 : bI false = 0 := rfl
    have n01 : ((0 : Int32) = 1) = False := by decide
    rw [b0] at hbit
    rw [e_X10_readsOrder_4]
    simp (disch := omega) only [↓reduceIte, ic_t, ic_f, not_true_eq_false, not_false_eq_true, ↓lt_v, rdR, rdE, rdS, leT, leTc, leTd, leF, leFc, leFd, ltT, ltTc, ltTd, ltF, ltFc, ltFd, eqT, eqTc, eqTd, eqF, eqFc, eqFd, m1T, m1F, m1T', m1F', inb_nI, ix_nI, inb_c, ix_c, nI_1, nI_pred, nI_m1, add_nIc, add_cnI, bd_v, reduceCtorEq, eqFcc, m1e0, m1e1, m1l0, m1g0, m2l0, m2g0, Int32.reduceLT, Int32.reduceLE, Int32.reduceAdd, Int32.reduceSub, Int32.reduceMul, eq_self, Bool.false_eq_true, s3, hpr, hd, e_X10_has, hbit, hor, n01]
    have hA := atR_set b2 (b := p + (k + 1)) (by omega)
    refine ih _ ⟨fun i hi => ?_, atR_fr hA (by simp (disch := omega) only [↓reduceIte, ic_t, ic_f, not_true_eq_false, not_false_eq_true, ↓lt_v, rdR, rdE, rdS, leT, leTc, leTd, leF, leFc, leFd, ltT, ltTc, ltTd, ltF, ltFc, ltFd, eqT, eqTc, eqTd, eqF, eqFc, eqFd, m1T, m1F, m1T', m1F', inb_nI, ix_nI, inb_c, ix_c, nI_1, nI_pred, nI_m1, add_nIc, add_cnI, bd_v, reduceCtorEq, eqFcc, m1e0, m1e1, m1l0, m1g0, m2l0, m2g0, Int32.reduceLT, Int32.reduceLE, Int32.reduceAdd, Int32.reduceSub, Int32.reduceMul, eq_self, Bool.false_eq_true]; rfl) (by simp (disch := omega) only [↓reduceIte, ic_t, ic_f, not_true_eq_false, not_false_eq_true, ↓lt_v, rdR, rdE, rdS, leT, leTc, leTd, leF, leFc, leFd, ltT, ltTc, ltTd, ltF, ltFc, ltFd, eqT, eqTc, eqTd, eqF, eqFc, eqFd, m1T, m1F, m1T', m1F', inb_nI, ix_nI, inb_c, ix_c, nI_1, nI_pred, nI_m1, add_nIc, add_cnI, bd_v, reduceCtorEq, eqFcc, m1e0, m1e1, m1l0, m1g0, m2l0, m2g0, Int32.reduceLT, Int32.reduceLE, Int32.reduceAdd, Int32.reduceSub, Int32.reduceMul, eq_self, Bool.false_eq_true]) (by simp (disch := omega) only [row_n]), frR_trans b3 (frR_trans (frR_sI (by omega) (by omega)) (frR_sI (by omega) (by omega)))⟩
    by_cases e : i = k
    · subst e; simp (disch := omega) only [↓reduceIte, ic_t, ic_f, not_true_eq_false, not_false_eq_true, ↓lt_v, rdR, rdE, rdS, leT, leTc, leTd, leF, leFc, leFd, ltT, ltTc, ltTd, ltF, ltFc, ltFd, eqT, eqTc, eqTd, eqF, eqFc, eqFd, m1T, m1F, m1T', m1F', inb_nI, ix_nI, inb_c, ix_c, nI_1, nI_pred, nI_m1, add_nIc, add_cnI, bd_v, reduceCtorEq, eqFcc, m1e0, m1e1, m1l0, m1g0, m2l0, m2g0, Int32.reduceLT, Int32.reduceLE, Int32.reduceAdd, Int32.reduceSub, Int32.reduceMul, eq_self, Bool.false_eq_true]
    · simp (disch := omega) only [↓reduceIte, ic_t, ic_f, not_true_eq_false, not_false_eq_true, ↓lt_v, rdR, rdE, rdS, leT, leTc, leTd, leF, leFc, leFd, ltT, ltTc, ltTd, ltF, ltFc, ltFd, eqT, eqTc, eqTd, eqF, eqFc, eqFd, m1T, m1F, m1T', m1F', inb_nI, ix_nI, inb_c, ix_c, nI_1, nI_pred, nI_m1, add_nIc, add_cnI, bd_v, reduceCtorEq, eqFcc, m1e0, m1e1, m1l0, m1g0, m2l0, m2g0, Int32.reduceLT, Int32.reduceLE, Int32.reduceAdd, Int32.reduceSub, Int32.reduceMul, eq_self, Bool.false_eq_true]; exact b1 i (by omega)
  · intro fu s hs
    obtain ⟨b1, b2, b3⟩ := hs
    have s3 : s.1 169 3 = nI n := by rw [b3.2.1 3 (by omega)]; exact h3
    rw [e_X10_readsOrder_4]
    rcases hend with e | ⟨e, hno⟩
    · rw [if_pos e]
      simp (disch := omega) only [↓reduceIte, ic_t, ic_f, not_true_eq_false, not_false_eq_true, ↓lt_v, rdR, rdE, rdS, leT, leTc, leTd, leF, leFc, leFd, ltT, ltTc, ltTd, ltF, ltFc, ltFd, eqT, eqTc, eqTd, eqF, eqFc, eqFd, m1T, m1F, m1T', m1F', inb_nI, ix_nI, inb_c, ix_c, nI_1, nI_pred, nI_m1, add_nIc, add_cnI, bd_v, reduceCtorEq, eqFcc, m1e0, m1e1, m1l0, m1g0, m2l0, m2g0, Int32.reduceLT, Int32.reduceLE, Int32.reduceAdd, Int32.reduceSub, Int32.reduceMul, eq_self, Bool.false_eq_true, s3]
      exact ok_some ⟨rfl, b1, b2, b3⟩
    · rw [if_neg (by omega)]
      have hd : fX10_digitIn 0 (nI (n - 1)) s = _ := r_digitIn (lo := 0) (hi := n - 1) b2 (by omega) (by omega)
      have b24 := b2.2.2.2.1
      have hpr : nI n - 1 = nI (n - 1) := by rw [sub_nIc (by omega)]
      by_cases c1 : p + K < m ∧ 48 + 0 ≤ f (p + K) ∧ f (p + K) ≤ 48 + (n - 1)
      · rw [if_pos c1] at hd
        obtain ⟨y1, y2⟩ := oY_b (L := m) hn K hall
        have hbit := bt_bit _ y1 (f (p + K) - 48) (by omega)
        have : (oY f p K).testBit (f (p + K) - 48) = true := by
          cases hh : (oY f p K).testBit (f (p + K) - 48)
          · exact absurd ⟨c1.1, by omega, by omega, hh⟩ hno
          · rfl
        have b1' : bI true = 1 := rfl
        have hm := b2.2.2.1
        rw [this, b1'] at hbit
        simp (disch := omega) only [↓reduceIte, ic_t, ic_f, not_true_eq_false, not_false_eq_true, ↓lt_v, rdR, rdE, rdS, leT, leTc, leTd, leF, leFc, leFd, ltT, ltTc, ltTd, ltF, ltFc, ltFd, eqT, eqTc, eqTd, eqF, eqFc, eqFd, m1T, m1F, m1T', m1F', inb_nI, ix_nI, inb_c, ix_c, nI_1, nI_pred, nI_m1, add_nIc, add_cnI, bd_v, reduceCtorEq, eqFcc, m1e0, m1e1, m1l0, m1g0, m2l0, m2g0, Int32.reduceLT, Int32.reduceLE, Int32.reduceAdd, Int32.reduceSub, Int32.reduceMul, eq_self, Bool.false_eq_true, s3, hpr, hd, e_X10_has, hbit]
        refine ok_some ⟨rfl, fun i hi => ?_, ?_, ?_⟩
        · simp (disch := omega) only [↓reduceIte, ic_t, ic_f, not_true_eq_false, not_false_eq_true, ↓lt_v, rdR, rdE, rdS, leT, leTc, leTd, leF, leFc, leFd, ltT, ltTc, ltTd, ltF, ltFc, ltFd, eqT, eqTc, eqTd, eqF, eqFc, eqFd, m1T, m1F, m1T', m1F', inb_nI, ix_nI, inb_c, ix_c, nI_1, nI_pred, nI_m1, add_nIc, add_cnI, bd_v, reduceCtorEq, eqFcc, m1e0, m1e1, m1l0, m1g0, m2l0, m2g0, Int32.reduceLT, Int32.reduceLE, Int32.reduceAdd, Int32.reduceSub, Int32.reduceMul, eq_self, Bool.false_eq_true]; exact b1 i hi
        · exact atR_set (atR_set b2 (b := p + K + 1) (by omega)) (b := p + K) (by omega)
        · exact frR_trans b3 (frR_trans (frR_sI (by omega) (by omega)) (frR_sI (by omega) (by omega)))
      · rw [if_neg c1] at hd
        simp (disch := omega) only [↓reduceIte, ic_t, ic_f, not_true_eq_false, not_false_eq_true, ↓lt_v, rdR, rdE, rdS, leT, leTc, leTd, leF, leFc, leFd, ltT, ltTc, ltTd, ltF, ltFc, ltFd, eqT, eqTc, eqTd, eqF, eqFc, eqFd, m1T, m1F, m1T', m1F', inb_nI, ix_nI, inb_c, ix_c, nI_1, nI_pred, nI_m1, add_nIc, add_cnI, bd_v, reduceCtorEq, eqFcc, m1e0, m1e1, m1l0, m1g0, m2l0, m2g0, Int32.reduceLT, Int32.reduceLE, Int32.reduceAdd, Int32.reduceSub, Int32.reduceMul, eq_self, Bool.false_eq_true, s3, hpr, hd]
        exact ok_some ⟨rfl, b1, b2, b3⟩
