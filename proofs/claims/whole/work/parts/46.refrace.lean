/-! PURE: the reference's race -/
def FrR (P S : Nat → Prop) (M M' : Mem) : Prop := (∀ a, a ≠ 169 → ¬ P a → M'.1 a = M.1 a) ∧ (∀ i, ¬ S i → M'.1 169 i = M.1 169 i) ∧ M'.2 = M.2
theorem frR_rfl {P S : Nat → Prop} {M : Mem} : FrR P S M M := ⟨fun _ _ _ => rfl, fun _ _ => rfl, rfl⟩
theorem frR_trans {P S : Nat → Prop} {M M' M'' : Mem} (h : FrR P S M M') (h' : FrR P S M' M'') : FrR P S M M'' := ⟨fun a h0 ha => (h'.1 a h0 ha).trans (h.1 a h0 ha), fun i hi => (h'.2.1 i hi).trans (h.2.1 i hi), h'.2.2.trans h.2.2⟩
theorem frR_sub {P S Q T : Nat → Prop} {M M' : Mem} (h : FrR P S M M') (hs : ∀ a, a ≠ 169 → P a → Q a) (ht : ∀ i, S i → T i) : FrR Q T M M' := ⟨fun a h0 ha => h.1 a h0 fun q => ha (hs a h0 q), fun i hi => h.2.1 i fun q => hi (ht i q), h.2.2⟩
theorem frR_sI {P S : Nat → Prop} {M : Mem} {a i : Nat} {v : Int32} (h1 : a ≠ 169 → P a) (h2 : a = 169 → S i) : FrR P S M (sI M a i v) := by
  refine ⟨fun b h0 hb => ?_, fun j hj => ?_, rfl⟩
  · by_cases e : b = a
    · subst e; exact absurd (h1 h0) hb
    · exact up2_row e
  · by_cases e : a = 169
    · subst e
      have : j ≠ i := fun q => hj (q ▸ h2 rfl)
      exact rdS this
    · exact rdR (fun q => e q.symm)
theorem bt_has : ∀ x, x < 64 → ∀ b, b < 6 → ((nI x >>> (nI b &&& 31)) &&& 1 = 1) = (x.testBit b = true) := by
  intro x hx b hb
  have h : ∀ x, x < 64 → ∀ b, b < 6 → decide ((nI x >>> (nI b &&& 31)) &&& 1 = 1) = x.testBit b := by decide +kernel
  have := h x hx b hb
  cases e : x.testBit b
  · rw [e] at this; simp [of_decide_eq_false this]
  · rw [e] at this; simp [of_decide_eq_true this]
theorem bt_all : ∀ n, n ≤ 6 → ((1 <<< (nI n &&& 31)) - 1 : Int32) = nI (2 ^ n - 1) ∧ 2 ^ n - 1 < 64 ∧ ∀ b, b < 6 → (2 ^ n - 1).testBit b = decide (b < n) := by
  have h : ∀ n, n < 7 → ((1 <<< (nI n &&& 31)) - 1 : Int32) = nI (2 ^ n - 1) ∧ 2 ^ n - 1 < 64 ∧ ∀ b, b < 6 → (2 ^ n - 1).testBit b = decide (b < n) := by decide +kernel
  exact fun n hn => h n (by omega)
def clr (x a c : Nat) : Nat := x &&& (63 ^^^ ((1 <<< a) ||| (1 <<< c)))
theorem bt_clr : ∀ x, x < 64 → ∀ a, a < 6 → ∀ c, c < 6 → (nI x &&& (((1 <<< (nI a &&& 31)) ||| (1 <<< (nI c &&& 31))) ^^^ (-1)) = nI (clr x a c) ∧ clr x a c < 64) ∧ ∀ b, b < 6 → (clr x a c).testBit b = (x.testBit b && !(decide (b = a)) && !(decide (b = c))) := by decide +kernel
theorem r_has {M : Mem} {x b : Nat} (hx : x < 64) (hb : b < 6) : fX10_has (nI x) (nI b) M = some (bI (x.testBit b), M) := by
  rw [e_X10_has]
  by_cases h : x.testBit b = true
  · rw [ic_pos (by rw [bt_has x hx b hb]; exact h), h]; rfl
  · rw [ic_neg (by rw [bt_has x hx b hb]; exact h)]
    simp at h
    rw [h]; rfl
/-- the reference's race -/
def RcR (n : Nat) (o : Nat → Nat) (L : Nat → Int32) (T : TS) (M : Mem) : Prop :=
  M.1 169 3 = nI n ∧ (∀ k, k < n → M.1 179 k = nI (o k)) ∧ (∀ k, k < n → M.1 180 (o k) = L k) ∧ (∃ x, x < 64 ∧ M.1 169 23 = nI x ∧ (∀ k, k < n → x.testBit (o k) = T.1 k) ∧ (∀ b, n ≤ b → b < 6 → x.testBit b = false)) ∧ M.1 169 27 = nI T.2.1 ∧ (∀ i, i < T.2.1 → M.1 182 i = T.2.2.1 i ∧ M.1 183 i = T.2.2.2.1 i ∧ M.1 184 i = T.2.2.2.2 i)
theorem r_nextA {M : Mem} {n x : Nat} {o : Nat → Nat} {G : Nat → Bool} (hn : n ≤ 6) (ho : ∀ k, k < n → o k < n) (h0 : M.1 169 3 = nI n) (hl : ∀ k, k < n → M.1 179 k = nI (o k)) (hx : x < 64) (hr : M.1 169 23 = nI x) (hg : ∀ k, k < n → x.testBit (o k) = G k) : ∀ (k fu : Nat), k < fu → k ≤ n → fX10_nextPlace_4 fu (-1) (nI k - 1) M = some (nI (na G k) - 1, M) := by
  intro k
  induction k with
  | zero =>
    intro fu hf _
    obtain ⟨fu, rfl⟩ : ∃ m, fu = m + 1 := ⟨fu - 1, by omega⟩
    rw [e_X10_nextPlace_4]
    simp (disch := omega) only [↓reduceIte, ic_t, ic_f, not_true_eq_false, not_false_eq_true, ↓lt_v, rdR, rdE, rdS, leT, leTc, leTd, leF, leFc, leFd, ltT, ltTc, ltTd, ltF, ltFc, ltFd, eqT, eqTc, eqTd, eqF, eqFc, eqFd, m1T, m1F, m1T', m1F', inb_nI, ix_nI, inb_c, ix_c, nI_1, nI_pred, nI_m1, add_nIc, add_cnI, bd_v, reduceCtorEq, eqFcc, m1e0, m1e1, m1l0, m1g0, m2l0, m2g0, Int32.reduceLT, Int32.reduceLE, Int32.reduceAdd, Int32.reduceSub, Int32.reduceMul, eq_self, Bool.false_eq_true, na]; rfl
  | succ k ih =>
    intro fu hf hk
    obtain ⟨fu, rfl⟩ : ∃ m, fu = m + 1 := ⟨fu - 1, by omega⟩
    have hok := ho k (by omega)
    rw [e_X10_nextPlace_4]
    simp (disch := omega) only [↓reduceIte, ic_t, ic_f, not_true_eq_false, not_false_eq_true, ↓lt_v, rdR, rdE, rdS, leT, leTc, leTd, leF, leFc, leFd, ltT, ltTc, ltTd, ltF, ltFc, ltFd, eqT, eqTc, eqTd, eqF, eqFc, eqFd, m1T, m1F, m1T', m1F', inb_nI, ix_nI, inb_c, ix_c, nI_1, nI_pred, nI_m1, add_nIc, add_cnI, bd_v, reduceCtorEq, eqFcc, m1e0, m1e1, m1l0, m1g0, m2l0, m2g0, Int32.reduceLT, Int32.reduceLE, Int32.reduceAdd, Int32.reduceSub, Int32.reduceMul, eq_self, Bool.false_eq_true, h0, hl, hr, r_has, hg, bI_0, na]
    cases h : G k <;> simp (disch := omega) only [↓reduceIte, ic_t, ic_f, not_true_eq_false, not_false_eq_true, ↓lt_v, rdR, rdE, rdS, leT, leTc, leTd, leF, leFc, leFd, ltT, ltTc, ltTd, ltF, ltFc, ltFd, eqT, eqTc, eqTd, eqF, eqFc, eqFd, m1T, m1F, m1T', m1F', inb_nI, ix_nI, inb_c, ix_c, nI_1, nI_pred, nI_m1, add_nIc, add_cnI, bd_v, reduceCtorEq, eqFcc, m1e0, m1e1, m1l0, m1g0, m2l0, m2g0, Int32.reduceLT, Int32.reduceLE, Int32.reduceAdd, Int32.reduceSub, Int32.reduceMul, eq_self, Bool.false_eq_true, ih]
theorem r_nextA' {M : Mem} {n k : Nat} {o : Nat → Nat} {L : Nat → Int32} {T : TS} (hn : n ≤ 6) (ho : ∀ k, k < n → o k < n) (hc : RcR n o L T M) (hk : k ≤ n) : fX10_nextPlace (nI k) (-1) M = some (nI (na T.1 k) - 1, M) := by
  obtain ⟨c1, c2, c3, ⟨x, hx, x1, x2, x3⟩, c5, c6⟩ := hc
  rw [e_X10_nextPlace]
  simp (disch := omega) only [↓reduceIte, ic_t, ic_f, not_true_eq_false, not_false_eq_true, ↓lt_v, rdR, rdE, rdS, leT, leTc, leTd, leF, leFc, leFd, ltT, ltTc, ltTd, ltF, ltFc, ltFd, eqT, eqTc, eqTd, eqF, eqFc, eqFd, m1T, m1F, m1T', m1F', inb_nI, ix_nI, inb_c, ix_c, nI_1, nI_pred, nI_m1, add_nIc, add_cnI, bd_v, reduceCtorEq, eqFcc, m1e0, m1e1, m1l0, m1g0, m2l0, m2g0, Int32.reduceLT, Int32.reduceLE, Int32.reduceAdd, Int32.reduceSub, Int32.reduceMul, eq_self, Bool.false_eq_true]
  exact r_nextA hn ho c1 c2 hx x1 x2 k FU (FU_gt (by omega)) hk
theorem r_nextB {M : Mem} {n x : Nat} {o : Nat → Nat} {G : Nat → Bool} (hn : n ≤ 6) (ho : ∀ k, k < n → o k < n) (h0 : M.1 169 3 = nI n) (hl : ∀ k, k < n → M.1 179 k = nI (o k)) (hx : x < 64) (hr : M.1 169 23 = nI x) (hg : ∀ k, k < n → x.testBit (o k) = G k) : ∀ (d fu : Nat), d < fu → d ≤ n → fX10_nextPlace_4 fu 1 (nI (n - d)) M = some (nI (nx G n d) - 1, M) := by
  intro d
  induction d with
  | zero =>
    intro fu hf _
    obtain ⟨fu, rfl⟩ : ∃ m, fu = m + 1 := ⟨fu - 1, by omega⟩
    rw [e_X10_nextPlace_4]
    simp (disch := omega) only [↓reduceIte, ic_t, ic_f, not_true_eq_false, not_false_eq_true, ↓lt_v, rdR, rdE, rdS, leT, leTc, leTd, leF, leFc, leFd, ltT, ltTc, ltTd, ltF, ltFc, ltFd, eqT, eqTc, eqTd, eqF, eqFc, eqFd, m1T, m1F, m1T', m1F', inb_nI, ix_nI, inb_c, ix_c, nI_1, nI_pred, nI_m1, add_nIc, add_cnI, bd_v, reduceCtorEq, eqFcc, m1e0, m1e1, m1l0, m1g0, m2l0, m2g0, Int32.reduceLT, Int32.reduceLE, Int32.reduceAdd, Int32.reduceSub, Int32.reduceMul, eq_self, Bool.false_eq_true, h0, nx]; rfl
  | succ d ih =>
    intro fu hf hk
    obtain ⟨fu, rfl⟩ : ∃ m, fu = m + 1 := ⟨fu - 1, by omega⟩
    have hok := ho (n - (d + 1)) (by omega)
    have e : n - (d + 1) + 1 = n - d := by omega
    rw [e_X10_nextPlace_4]
    simp (disch := omega) only [↓reduceIte, ic_t, ic_f, not_true_eq_false, not_false_eq_true, ↓lt_v, rdR, rdE, rdS, leT, leTc, leTd, leF, leFc, leFd, ltT, ltTc, ltTd, ltF, ltFc, ltFd, eqT, eqTc, eqTd, eqF, eqFc, eqFd, m1T, m1F, m1T', m1F', inb_nI, ix_nI, inb_c, ix_c, nI_1, nI_pred, nI_m1, add_nIc, add_cnI, bd_v, reduceCtorEq, eqFcc, m1e0, m1e1, m1l0, m1g0, m2l0, m2g0, Int32.reduceLT, Int32.reduceLE, Int32.reduceAdd, Int32.reduceSub, Int32.reduceMul, eq_self, Bool.false_eq_true, h0, hl, hr, r_has, hg, bI_0, nx, e]
    cases h : G (n - (d + 1)) <;> simp (disch := omega) only [↓reduceIte, ic_t, ic_f, not_true_eq_false, not_false_eq_true, ↓lt_v, rdR, rdE, rdS, leT, leTc, leTd, leF, leFc, leFd, ltT, ltTc, ltTd, ltF, ltFc, ltFd, eqT, eqTc, eqTd, eqF, eqFc, eqFd, m1T, m1F, m1T', m1F', inb_nI, ix_nI, inb_c, ix_c, nI_1, nI_pred, nI_m1, add_nIc, add_cnI, bd_v, reduceCtorEq, eqFcc, m1e0, m1e1, m1l0, m1g0, m2l0, m2g0, Int32.reduceLT, Int32.reduceLE, Int32.reduceAdd, Int32.reduceSub, Int32.reduceMul, eq_self, Bool.false_eq_true, ih]
    rw [← e, nI_pred]
theorem r_nextB' {M : Mem} {n k : Nat} {o : Nat → Nat} {L : Nat → Int32} {T : TS} (hn : n ≤ 6) (ho : ∀ k, k < n → o k < n) (hc : RcR n o L T M) (hk : k < n) : fX10_nextPlace (nI k) 1 M = some (nI (nx T.1 n (n - (k + 1))) - 1, M) := by
  obtain ⟨c1, c2, c3, ⟨x, hx, x1, x2, x3⟩, c5, c6⟩ := hc
  rw [e_X10_nextPlace]
  simp (disch := omega) only [↓reduceIte, ic_t, ic_f, not_true_eq_false, not_false_eq_true, ↓lt_v, rdR, rdE, rdS, leT, leTc, leTd, leF, leFc, leFd, ltT, ltTc, ltTd, ltF, ltFc, ltFd, eqT, eqTc, eqTd, eqF, eqFc, eqFd, m1T, m1F, m1T', m1F', inb_nI, ix_nI, inb_c, ix_c, nI_1, nI_pred, nI_m1, add_nIc, add_cnI, bd_v, reduceCtorEq, eqFcc, m1e0, m1e1, m1l0, m1g0, m2l0, m2g0, Int32.reduceLT, Int32.reduceLE, Int32.reduceAdd, Int32.reduceSub, Int32.reduceMul, eq_self, Bool.false_eq_true]
  have := r_nextB hn ho c1 c2 hx x1 x2 (n - (k + 1)) FU (FU_gt (by omega)) (by omega)
  rw [show n - (n - (k + 1)) = k + 1 by omega] at this
  exact this
theorem r_behind {M : Mem} {n k : Nat} {o : Nat → Nat} {L : Nat → Int32} {T : TS} (hn : n ≤ 6) (ho : ∀ k, k < n → o k < n) (hc : RcR n o L T M) (hk : k < n) : fX10_behind (nI k) M = some (if na T.1 k = 0 then 99 else L (na T.1 k - 1) - L k, M) := by
  have h1 := r_nextA' hn ho hc (Nat.le_of_lt hk)
  have hl := na_le T.1 k
  obtain ⟨c1, c2, c3, _⟩ := hc
  have hok := ho k hk
  rw [e_X10_behind]
  simp (disch := omega) only [↓reduceIte, ic_t, ic_f, not_true_eq_false, not_false_eq_true, ↓lt_v, rdR, rdE, rdS, leT, leTc, leTd, leF, leFc, leFd, ltT, ltTc, ltTd, ltF, ltFc, ltFd, eqT, eqTc, eqTd, eqF, eqFc, eqFd, m1T, m1F, m1T', m1F', inb_nI, ix_nI, inb_c, ix_c, nI_1, nI_pred, nI_m1, add_nIc, add_cnI, bd_v, reduceCtorEq, eqFcc, m1e0, m1e1, m1l0, m1g0, m2l0, m2g0, Int32.reduceLT, Int32.reduceLE, Int32.reduceAdd, Int32.reduceSub, Int32.reduceMul, eq_self, Bool.false_eq_true, h1]
  by_cases h0 : na T.1 k = 0
  · simp (disch := omega) only [↓reduceIte, ic_t, ic_f, not_true_eq_false, not_false_eq_true, ↓lt_v, rdR, rdE, rdS, leT, leTc, leTd, leF, leFc, leFd, ltT, ltTc, ltTd, ltF, ltFc, ltFd, eqT, eqTc, eqTd, eqF, eqFc, eqFd, m1T, m1F, m1T', m1F', inb_nI, ix_nI, inb_c, ix_c, nI_1, nI_pred, nI_m1, add_nIc, add_cnI, bd_v, reduceCtorEq, eqFcc, m1e0, m1e1, m1l0, m1g0, m2l0, m2g0, Int32.reduceLT, Int32.reduceLE, Int32.reduceAdd, Int32.reduceSub, Int32.reduceMul, eq_self, Bool.false_eq_true]
    simp [h0]
  · obtain ⟨a, ha⟩ : ∃ a, na T.1 k = a + 1 := ⟨na T.1 k - 1, by omega⟩
    have hoa := ho a (by omega)
    simp (disch := omega) only [↓reduceIte, ic_t, ic_f, not_true_eq_false, not_false_eq_true, ↓lt_v, rdR, rdE, rdS, leT, leTc, leTd, leF, leFc, leFd, ltT, ltTc, ltTd, ltF, ltFc, ltFd, eqT, eqTc, eqTd, eqF, eqFc, eqFd, m1T, m1F, m1T', m1F', inb_nI, ix_nI, inb_c, ix_c, nI_1, nI_pred, nI_m1, add_nIc, add_cnI, bd_v, reduceCtorEq, eqFcc, m1e0, m1e1, m1l0, m1g0, m2l0, m2g0, Int32.reduceLT, Int32.reduceLE, Int32.reduceAdd, Int32.reduceSub, Int32.reduceMul, eq_self, Bool.false_eq_true, ha, c2, c3]
    simp
