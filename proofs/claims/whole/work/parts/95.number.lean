/-! PURE: numbers of orders -/
def b6 (o : Nat → Nat) : Nat → Nat
  | 0 => 0
  | k + 1 => b6 o k * 6 + o k
theorem c_orderNumber {M : Mem} {n r : Nat} {v : VV} (hn : n ≤ 6) (hv : RvC r n v M) : fX4_orderNumber r M = some (nI (b6 v.2 n), M) := by
  have hFU : 2000 < FU := FU_big
  have e0 : M.1 r 0 = nI n := hv.1
  have go : ∀ k, k ≤ n → fX4_orderNumber r M = fX4_orderNumber_4 (FU - k) r (nI (b6 v.2 k)) (nI k) M := by
    intro k
    induction k with
    | zero => intro _; rw [e_X4_orderNumber]; rfl
    | succ k ih =>
      intro hk
      have h5 : M.1 (r + 4) k = nI (v.2 k) := hv.2.2.2.2.1 k (by omega)
      have e6 : nI (b6 v.2 k) * 6 + nI (v.2 k) = nI (b6 v.2 (k + 1)) := by
        rw [show (6 : Int32) = nI 6 from rfl, pk_mul, nI_add]; rfl
      rw [ih (by omega), show FU - k = (FU - (k + 1)) + 1 by omega, e_X4_orderNumber_4]
      simp (disch := omega) only [↓reduceIte, ic_t, ic_f, not_true_eq_false, not_false_eq_true, ↓lt_v, leT, leTc, leTd, leF, leFc, leFd, ltT, ltTc, ltTd, ltF, ltFc, ltFd, eqT, eqTc, eqTd, eqF, eqFc, eqFd, m1T, m1F, m1T', m1F', inb_nI, ix_nI, inb_c, ix_c, nI_1, nI_pred, nI_m1, add_nIc, add_cnI, bd_v, reduceCtorEq, eqFcc, m1e0, m1e1, m1l0, m1g0, m2l0, m2g0, Int32.reduceLT, Int32.reduceLE, Int32.reduceAdd, Int32.reduceSub, Int32.reduceMul, eq_self, Bool.false_eq_true, e0, h5, e6]
  rw [go n (Nat.le_refl _), show FU - n = (FU - (n + 1)) + 1 by omega, e_X4_orderNumber_4]
  simp (disch := omega) only [↓reduceIte, ic_t, ic_f, not_true_eq_false, not_false_eq_true, ↓lt_v, leT, leTc, leTd, leF, leFc, leFd, ltT, ltTc, ltTd, ltF, ltFc, ltFd, eqT, eqTc, eqTd, eqF, eqFc, eqFd, m1T, m1F, m1T', m1F', inb_nI, ix_nI, inb_c, ix_c, nI_1, nI_pred, nI_m1, add_nIc, add_cnI, bd_v, reduceCtorEq, eqFcc, m1e0, m1e1, m1l0, m1g0, m2l0, m2g0, Int32.reduceLT, Int32.reduceLE, Int32.reduceAdd, Int32.reduceSub, Int32.reduceMul, eq_self, Bool.false_eq_true, e0]
theorem r_many {s : Mem} : ∀ k d, k ≤ d → k ≤ 6 → fX10_many (d + 1) (nI k) s = some (nI (fac k), s)
  | 0, d, _, _ => by
    rw [e_X10_many, e_X10_many_b]
    simp (disch := omega) only [↓reduceIte, ic_t, ic_f, not_true_eq_false, not_false_eq_true, ↓lt_v, leT, leTc, leTd, leF, leFc, leFd, ltT, ltTc, ltTd, ltF, ltFc, ltFd, eqT, eqTc, eqTd, eqF, eqFc, eqFd, m1T, m1F, m1T', m1F', inb_nI, ix_nI, inb_c, ix_c, nI_1, nI_pred, nI_m1, add_nIc, add_cnI, bd_v, reduceCtorEq, eqFcc, m1e0, m1e1, m1l0, m1g0, m2l0, m2g0, Int32.reduceLT, Int32.reduceLE, Int32.reduceAdd, Int32.reduceSub, Int32.reduceMul, eq_self, Bool.false_eq_true]
    rfl
  | 1, d, _, _ => by
    rw [e_X10_many, e_X10_many_b]
    simp (disch := omega) only [↓reduceIte, ic_t, ic_f, not_true_eq_false, not_false_eq_true, ↓lt_v, leT, leTc, leTd, leF, leFc, leFd, ltT, ltTc, ltTd, ltF, ltFc, ltFd, eqT, eqTc, eqTd, eqF, eqFc, eqFd, m1T, m1F, m1T', m1F', inb_nI, ix_nI, inb_c, ix_c, nI_1, nI_pred, nI_m1, add_nIc, add_cnI, bd_v, reduceCtorEq, eqFcc, m1e0, m1e1, m1l0, m1g0, m2l0, m2g0, Int32.reduceLT, Int32.reduceLE, Int32.reduceAdd, Int32.reduceSub, Int32.reduceMul, eq_self, Bool.false_eq_true]
    rfl
  | k + 2, d, hd, hk => by
    obtain ⟨d, rfl⟩ : ∃ m, d = m + 1 := ⟨d - 1, by omega⟩
    have ih := r_many (s := s) (k + 1) d (by omega) (by omega)
    have hpr : nI (k + 2) - 1 = nI (k + 1) := by rw [sub_nIc (by omega)]; rfl
    rw [e_X10_many, e_X10_many_b]
    simp (disch := omega) only [↓reduceIte, ic_t, ic_f, not_true_eq_false, not_false_eq_true, ↓lt_v, leT, leTc, leTd, leF, leFc, leFd, ltT, ltTc, ltTd, ltF, ltFc, ltFd, eqT, eqTc, eqTd, eqF, eqFc, eqFd, m1T, m1F, m1T', m1F', inb_nI, ix_nI, inb_c, ix_c, nI_1, nI_pred, nI_m1, add_nIc, add_cnI, bd_v, reduceCtorEq, eqFcc, m1e0, m1e1, m1l0, m1g0, m2l0, m2g0, Int32.reduceLT, Int32.reduceLE, Int32.reduceAdd, Int32.reduceSub, Int32.reduceMul, eq_self, Bool.false_eq_true, hpr, ih, pk_mul]
    rfl
/-- how many behind place i in the order o are smaller -/
def cs (n : Nat) (o : Nat → Nat) (i : Nat) : Nat := sm n (fun j => if i < j ∧ o j < o i then 1 else 0)
def lh (n : Nat) (o : Nat → Nat) : Nat → Nat
  | 0 => 0
  | i + 1 => lh n o i + cs n o i * fac (n - 1 - i)
theorem r_num20 {s : Mem} {n i x a1 : Nat} {o : Nat → Nat} {k4 : Nat → Int32 → Int32 → Mem → Option (Int32 × Mem)} (hn : n ≤ 6) (hl : n ≤ ln a1) (hl2 : ln a1 ≤ 30) (hi : i < n) (e0 : s.1 169 3 = nI n) (ho : ∀ k, k < n → s.1 a1 k = nI (o k) ∧ o k < 6) : ∀ d j fu, j + d = n → i < j → d + 1 ≤ fu → fX10_numberOf_20 k4 fu a1 (nI x) (nI i) (nI (sm j (fun t => if i < t ∧ o t < o i then 1 else 0))) (nI j) s = k4 a1 (nI (x + cs n o i * fac (n - 1 - i))) (nI (i + 1)) s := by
  have f0 : ∀ N : Mem, fX10_flag 0 N = some (0, N) := fun N => r_flagI (Or.inl rfl)
  have f1 : ∀ N : Mem, fX10_flag 1 N = some (1, N) := fun N => r_flagI (Or.inr rfl)
  intro d
  induction d with
  | zero =>
    intro j fu hj hij hfu
    have hj : j = n := hj
    subst hj
    obtain ⟨fu, rfl⟩ : ∃ m, fu = m + 1 := ⟨fu - 1, by omega⟩
    have hpr : nI j - 1 - nI i = nI (j - 1 - i) := by rw [sub_nIc (by omega), pk_sub (by omega)]
    have hm := r_many (s := s) (j - 1 - i) 11 (by omega) (by omega)
    rw [e_X10_numberOf_20]
    simp (disch := omega) only [↓reduceIte, ic_t, ic_f, not_true_eq_false, not_false_eq_true, ↓lt_v, leT, leTc, leTd, leF, leFc, leFd, ltT, ltTc, ltTd, ltF, ltFc, ltFd, eqT, eqTc, eqTd, eqF, eqFc, eqFd, m1T, m1F, m1T', m1F', inb_nI, ix_nI, inb_c, ix_c, nI_1, nI_pred, nI_m1, add_nIc, add_cnI, bd_v, reduceCtorEq, eqFcc, m1e0, m1e1, m1l0, m1g0, m2l0, m2g0, Int32.reduceLT, Int32.reduceLE, Int32.reduceAdd, Int32.reduceSub, Int32.reduceMul, eq_self, Bool.false_eq_true, e0, hpr, hm, pk_mul, nI_add]
    rfl
  | succ d ih =>
    intro j fu hj hij hfu
    obtain ⟨fu, rfl⟩ : ∃ m, fu = m + 1 := ⟨fu - 1, by omega⟩
    have ih := ih (j + 1) fu (by omega) (by omega) (by omega)
    have es : sm (j + 1) (fun t => if i < t ∧ o t < o i then 1 else 0) = sm j (fun t => if i < t ∧ o t < o i then 1 else 0) + (if i < j ∧ o j < o i then 1 else 0) := rfl
    have hb := sm_le1 (f := fun t => if i < t ∧ o t < o i then 1 else 0) (fun k => by show (if i < k ∧ o k < o i then 1 else 0) ≤ 1; split <;> omega) j
    generalize sm j (fun t => if i < t ∧ o t < o i then 1 else 0) = z at es hb ⊢
    rw [es] at ih
    rw [← ih, e_X10_numberOf_20]
    obtain ⟨p1, p2⟩ := ho i hi
    obtain ⟨q1, q2⟩ := ho j (by omega)
    by_cases c : o j < o i
    · rw [if_pos ⟨hij, c⟩]
      simp (disch := omega) only [↓reduceIte, ic_t, ic_f, not_true_eq_false, not_false_eq_true, ↓lt_v, leT, leTc, leTd, leF, leFc, leFd, ltT, ltTc, ltTd, ltF, ltFc, ltFd, eqT, eqTc, eqTd, eqF, eqFc, eqFd, m1T, m1F, m1T', m1F', inb_nI, ix_nI, inb_c, ix_c, nI_1, nI_pred, nI_m1, add_nIc, add_cnI, bd_v, reduceCtorEq, eqFcc, m1e0, m1e1, m1l0, m1g0, m2l0, m2g0, Int32.reduceLT, Int32.reduceLE, Int32.reduceAdd, Int32.reduceSub, Int32.reduceMul, eq_self, Bool.false_eq_true, e0, p1, q1, e_X10_numberOf_46, f0, f1]
    · rw [if_neg (fun q => c q.2)]
      simp (disch := omega) only [↓reduceIte, ic_t, ic_f, not_true_eq_false, not_false_eq_true, ↓lt_v, leT, leTc, leTd, leF, leFc, leFd, ltT, ltTc, ltTd, ltF, ltFc, ltFd, eqT, eqTc, eqTd, eqF, eqFc, eqFd, m1T, m1F, m1T', m1F', inb_nI, ix_nI, inb_c, ix_c, nI_1, nI_pred, nI_m1, add_nIc, add_cnI, bd_v, reduceCtorEq, eqFcc, m1e0, m1e1, m1l0, m1g0, m2l0, m2g0, Int32.reduceLT, Int32.reduceLE, Int32.reduceAdd, Int32.reduceSub, Int32.reduceMul, eq_self, Bool.false_eq_true, e0, p1, q1, e_X10_numberOf_46, f0, f1]
theorem r_numberOf {s : Mem} {n a1 : Nat} {o : Nat → Nat} (hn : n ≤ 6) (hl : n ≤ ln a1) (hl2 : ln a1 ≤ 30) (e0 : s.1 169 3 = nI n) (ho : ∀ k, k < n → s.1 a1 k = nI (o k) ∧ o k < 6) : fX10_numberOf a1 s = some (nI (lh n o n), s) := by
  have hFU : 2000 < FU := FU_big
  have go : ∀ k, k ≤ n → fX10_numberOf a1 s = fX10_numberOf_4 (FU - k) a1 (nI (lh n o k)) (nI k) s := by
    intro k
    induction k with
    | zero => intro _; rw [e_X10_numberOf]; rfl
    | succ k ih =>
      intro hk
      rw [ih (by omega), show FU - k = (FU - (k + 1)) + 1 by omega, e_X10_numberOf_4]
      have z0 : sm (k + 1) (fun t => if k < t ∧ o t < o k then 1 else 0) = 0 := (sm_congr (g := fun _ => 0) (k + 1) (fun t ht => if_neg (fun q => by omega))).trans (sm_zero _)
      have := r_num20 (i := k) (x := lh n o k) (k4 := fX10_numberOf_4 (FU - (k + 1))) hn hl hl2 (by omega) e0 ho (n - (k + 1)) (k + 1) FU (by omega) (by omega) (by omega)
      rw [z0] at this
      simp (disch := omega) only [↓reduceIte, ic_t, ic_f, not_true_eq_false, not_false_eq_true, ↓lt_v, leT, leTc, leTd, leF, leFc, leFd, ltT, ltTc, ltTd, ltF, ltFc, ltFd, eqT, eqTc, eqTd, eqF, eqFc, eqFd, m1T, m1F, m1T', m1F', inb_nI, ix_nI, inb_c, ix_c, nI_1, nI_pred, nI_m1, add_nIc, add_cnI, bd_v, reduceCtorEq, eqFcc, m1e0, m1e1, m1l0, m1g0, m2l0, m2g0, Int32.reduceLT, Int32.reduceLE, Int32.reduceAdd, Int32.reduceSub, Int32.reduceMul, eq_self, Bool.false_eq_true, e0]
      exact this
  rw [go n (Nat.le_refl _), show FU - n = (FU - (n + 1)) + 1 by omega, e_X10_numberOf_4]
  simp (disch := omega) only [↓reduceIte, ic_t, ic_f, not_true_eq_false, not_false_eq_true, ↓lt_v, leT, leTc, leTd, leF, leFc, leFd, ltT, ltTc, ltTd, ltF, ltFc, ltFd, eqT, eqTc, eqTd, eqF, eqFc, eqFd, m1T, m1F, m1T', m1F', inb_nI, ix_nI, inb_c, ix_c, nI_1, nI_pred, nI_m1, add_nIc, add_cnI, bd_v, reduceCtorEq, eqFcc, m1e0, m1e1, m1l0, m1g0, m2l0, m2g0, Int32.reduceLT, Int32.reduceLE, Int32.reduceAdd, Int32.reduceSub, Int32.reduceMul, eq_self, Bool.false_eq_true, e0]
theorem b6_inj {o o' : Nat → Nat} : ∀ n, (∀ i, i < n → o i < 6 ∧ o' i < 6) → b6 o n = b6 o' n → ∀ i, i < n → o i = o' i
  | 0, _, _ => fun i hi => absurd hi (Nat.not_lt_zero _)
  | n + 1, h, e => fun i hi => by
    have hn := h n (by omega)
    have e : b6 o n * 6 + o n = b6 o' n * 6 + o' n := e
    by_cases c : i = n
    · subst c; omega
    · exact b6_inj n (fun i hi => h i (by omega)) (by omega) i (by omega)
theorem r_laysStanding {M : Mem} {n a1 a2 : Nat} {v : VV} (hw : WfV n v) (hl1 : ln a1 = 22) (hl : n ≤ ln a2) (hl2 : ln a2 ≤ 30) (h12 : a1 ≠ a2) (h2 : a2 ≠ 169) (e0 : M.1 169 3 = nI n) (hv : ∀ i, i < 22 → M.1 a1 i = v.1 i) : Ok (fX10_laysStanding a1 a2 M) (fun M' => (∀ i, i < n → M'.1 a2 i = nI (v.2 i)) ∧ FrR (fun a => a = a2) (fun _ => False) M M') := by
  have hn : n ≤ 6 := hw.1
  rw [e_X10_laysStanding]
  have hFU : 2000 < FU := FU_big
  generalize FU = fu0 at hFU ⊢
  refine ok_loop n (fun fu k s => fX10_laysStanding_2 fu a1 a2 (nI k) s) (fun k s => (∀ i, i < k → s.1 a2 i = nI (v.2 i)) ∧ FrR (fun a => a = a2) (fun _ => False) M s) ?_ ?_ fu0 0 M (by omega) (by omega) ⟨fun i hi => absurd hi (Nat.not_lt_zero _), frR_rfl⟩
  · intro fu k s hk hs ih
    obtain ⟨b1, b2⟩ := hs
    have s3 : s.1 169 3 = nI n := by rw [b2.2.1 3 (fun q => q)]; exact e0
    by_cases hq : a1 = 169
    · exact absurd hl1 (by rw [hq]; decide)
    · have hb := r_boatOn (k := k) hw hl1 s3 (fun i hi => by rw [b2.1 a1 hq h12]; exact hv i hi) hk
      rw [e_X10_laysStanding_2]
      simp (disch := omega) only [↓reduceIte, ic_t, ic_f, not_true_eq_false, not_false_eq_true, ↓lt_v, rdR, rdE, rdS, leT, leTc, leTd, leF, leFc, leFd, ltT, ltTc, ltTd, ltF, ltFc, ltFd, eqT, eqTc, eqTd, eqF, eqFc, eqFd, m1T, m1F, m1T', m1F', inb_nI, ix_nI, inb_c, ix_c, nI_1, nI_pred, nI_m1, add_nIc, add_cnI, bd_v, reduceCtorEq, eqFcc, m1e0, m1e1, m1l0, m1g0, m2l0, m2g0, Int32.reduceLT, Int32.reduceLE, Int32.reduceAdd, Int32.reduceSub, Int32.reduceMul, eq_self, Bool.false_eq_true, s3, hb]
      refine ih _ ⟨fun i hi => ?_, frR_trans b2 (frR_sI (by omega) (by omega))⟩
      by_cases e : i = k
      · subst e; simp (disch := omega) only [↓reduceIte, ic_t, ic_f, not_true_eq_false, not_false_eq_true, ↓lt_v, rdR, rdE, rdS, leT, leTc, leTd, leF, leFc, leFd, ltT, ltTc, ltTd, ltF, ltFc, ltFd, eqT, eqTc, eqTd, eqF, eqFc, eqFd, m1T, m1F, m1T', m1F', inb_nI, ix_nI, inb_c, ix_c, nI_1, nI_pred, nI_m1, add_nIc, add_cnI, bd_v, reduceCtorEq, eqFcc, m1e0, m1e1, m1l0, m1g0, m2l0, m2g0, Int32.reduceLT, Int32.reduceLE, Int32.reduceAdd, Int32.reduceSub, Int32.reduceMul, eq_self, Bool.false_eq_true]
      · simp (disch := omega) only [↓reduceIte, ic_t, ic_f, not_true_eq_false, not_false_eq_true, ↓lt_v, rdR, rdE, rdS, leT, leTc, leTd, leF, leFc, leFd, ltT, ltTc, ltTd, ltF, ltFc, ltFd, eqT, eqTc, eqTd, eqF, eqFc, eqFd, m1T, m1F, m1T', m1F', inb_nI, ix_nI, inb_c, ix_c, nI_1, nI_pred, nI_m1, add_nIc, add_cnI, bd_v, reduceCtorEq, eqFcc, m1e0, m1e1, m1l0, m1g0, m2l0, m2g0, Int32.reduceLT, Int32.reduceLE, Int32.reduceAdd, Int32.reduceSub, Int32.reduceMul, eq_self, Bool.false_eq_true]; exact b1 i (by omega)
  · intro fu s hs
    have s3 : s.1 169 3 = nI n := by rw [hs.2.2.1 3 (fun q => q)]; exact e0
    rw [e_X10_laysStanding_2]
    simp (disch := omega) only [↓reduceIte, ic_t, ic_f, not_true_eq_false, not_false_eq_true, ↓lt_v, rdR, rdE, rdS, leT, leTc, leTd, leF, leFc, leFd, ltT, ltTc, ltTd, ltF, ltFc, ltFd, eqT, eqTc, eqTd, eqF, eqFc, eqFd, m1T, m1F, m1T', m1F', inb_nI, ix_nI, inb_c, ix_c, nI_1, nI_pred, nI_m1, add_nIc, add_cnI, bd_v, reduceCtorEq, eqFcc, m1e0, m1e1, m1l0, m1g0, m2l0, m2g0, Int32.reduceLT, Int32.reduceLE, Int32.reduceAdd, Int32.reduceSub, Int32.reduceMul, eq_self, Bool.false_eq_true, s3]
    exact ok_some hs
theorem cs_le {o : Nat → Nat} {i : Nat} : ∀ m, sm m (fun j => if i < j ∧ o j < o i then 1 else 0) ≤ m - 1 - i
  | 0 => Nat.zero_le _
  | m + 1 => by
    have ih := cs_le (o := o) (i := i) m
    show sm m (fun j => if i < j ∧ o j < o i then 1 else 0) + (if i < m ∧ o m < o i then 1 else 0) ≤ m + 1 - 1 - i
    by_cases c : i < m ∧ o m < o i
    · rw [if_pos c]; omega
    · rw [if_neg c]; omega
theorem lh_lt {n : Nat} {o : Nat → Nat} (hn : n ≤ 6) : lh n o n < 720 := by
  have h : ∀ i, cs n o i ≤ n - 1 - i := fun i => cs_le n
  have f0 : fac 0 = 1 := rfl
  have f1 : fac 1 = 1 := rfl
  have f2 : fac 2 = 2 := rfl
  have f3 : fac 3 = 6 := rfl
  have f4 : fac 4 = 24 := rfl
  have f5 : fac 5 = 120 := rfl
  have h0 := h 0
  have h1 := h 1
  have h2 := h 2
  have h3 := h 3
  have h4 := h 4
  have h5 := h 5
  rcases (show n = 0 ∨ n = 1 ∨ n = 2 ∨ n = 3 ∨ n = 4 ∨ n = 5 ∨ n = 6 by omega) with e | e | e | e | e | e | e <;> subst e
  all_goals (simp only [lh, Nat.reduceSub, Nat.sub_zero, f0, f1, f2, f3, f4, f5] at h0 h1 h2 h3 h4 h5 ⊢; omega)
/-- equal numbers: equal counts -/
theorem lh_cs {n : Nat} {o p : Nat → Nat} (hn : n ≤ 6) (e : lh n o n = lh n p n) : ∀ i, i < n → cs n o i = cs n p i := by
  have h : ∀ i, cs n o i ≤ n - 1 - i := fun i => cs_le n
  have h' : ∀ i, cs n p i ≤ n - 1 - i := fun i => cs_le n
  have f0 : fac 0 = 1 := rfl
  have f1 : fac 1 = 1 := rfl
  have f2 : fac 2 = 2 := rfl
  have f3 : fac 3 = 6 := rfl
  have f4 : fac 4 = 24 := rfl
  have f5 : fac 5 = 120 := rfl
  have h0 := h 0
  have h1 := h 1
  have h2 := h 2
  have h3 := h 3
  have h4 := h 4
  have h5 := h 5
  have g0 := h' 0
  have g1 := h' 1
  have g2 := h' 2
  have g3 := h' 3
  have g4 := h' 4
  have g5 := h' 5
  intro i hi
  rcases (show n = 0 ∨ n = 1 ∨ n = 2 ∨ n = 3 ∨ n = 4 ∨ n = 5 ∨ n = 6 by omega) with q | q | q | q | q | q | q <;> subst q
  all_goals (simp only [lh, Nat.reduceSub, Nat.sub_zero, f0, f1, f2, f3, f4, f5] at h0 h1 h2 h3 h4 h5 g0 g1 g2 g3 g4 g5 e)
  · omega
  all_goals (rcases (show i = 0 ∨ i = 1 ∨ i = 2 ∨ i = 3 ∨ i = 4 ∨ i = 5 by omega) with r | r | r | r | r | r <;> subst r <;> omega)
