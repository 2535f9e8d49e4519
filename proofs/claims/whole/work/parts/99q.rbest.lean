/-! PURE: best of the reference -/
def Jb (n : Nat) (C : Nat → Nat) (L mo al : Nat) : Prop := (∀ i, i < n → i < L → C i = 0) ∧ ((L < n ∧ 0 < C L ∧ al = C L) ∨ (L = 6 ∧ al = 0 ∧ mo = 0 ∧ ∀ i, i < n → C i = 0)) ∧ mo ≤ n ∧ (∀ i, mo ≤ i → i < n → C i = 0) ∧ (mo ≠ 0 → 0 < C (mo - 1))
theorem jb_congr {n L mo al : Nat} {C C' : Nat → Nat} (h : Jb n C L mo al) (e : ∀ i, i < n → C' i = C i) : Jb n C' L mo al := by
  obtain ⟨h1, h2, h3, h4, h5⟩ := h
  refine ⟨fun i hi hl => by rw [e i hi]; exact h1 i hi hl, ?_, h3, fun i h hi => by rw [e i hi]; exact h4 i h hi, fun q => by rw [e (mo - 1) (by omega)]; exact h5 q⟩
  rcases h2 with ⟨a, b, c⟩ | ⟨a, b, c, d⟩
  · exact Or.inl ⟨a, by rw [e L a]; exact b, by rw [e L a]; exact c⟩
  · exact Or.inr ⟨a, b, c, fun i hi => by rw [e i hi]; exact d i hi⟩
theorem jb_hit {n L mo al k : Nat} {C C' : Nat → Nat} (hn : n ≤ 6) (hk : k < n) (h : Jb n C L mo al) (e : ∀ i, i < n → C' i = C i + (if i = k then 1 else 0)) : Jb n C' (min L k) (max mo (k + 1)) ((if k < L then 0 else al) + (if k = min L k then 1 else 0)) := by
  obtain ⟨h1, h2, h3, h4, h5⟩ := h
  have ek := e k hk
  rw [if_pos rfl] at ek
  have en : ∀ i, i < n → i ≠ k → C' i = C i := fun i hi ne => by rw [e i hi, if_neg ne]; rfl
  refine ⟨fun i hi hl => by rw [en i hi (by omega)]; exact h1 i hi (by omega), Or.inl ⟨by omega, ?_, ?_⟩, by omega, fun i h hi => by rw [en i hi (by omega)]; exact h4 i (by omega) hi, fun _ => ?_⟩
  · by_cases c : k ≤ L
    · rw [show min L k = k by omega]; omega
    · rw [show min L k = L by omega, en L (by omega) (by omega)]
      rcases h2 with ⟨a, b, _⟩ | ⟨a, _⟩
      · exact b
      · omega
  · by_cases c : k < L
    · rw [if_pos c, show min L k = k by omega, if_pos rfl, ek, h1 k hk c]
    · rw [if_neg c]
      rcases h2 with ⟨a, b, c2⟩ | ⟨a, _⟩
      · by_cases c3 : k = L
        · subst c3
          rw [show min k k = k by omega, if_pos rfl, ek, c2]
        · rw [show min L k = L by omega, if_neg c3, en L a (by omega), c2]; rfl
      · omega
  · by_cases c : mo ≤ k + 1
    · rw [show max mo (k + 1) - 1 = k by omega]; omega
    · rw [show max mo (k + 1) = mo by omega, en (mo - 1) (by omega) (by omega)]
      exact h5 (by omega)
theorem m1_ltT {a k : Nat} (h : a ≤ k) (hk : k < 2 ^ 31) : (nI a - 1 < nI k) = True := by
  refine eq_true ?_
  cases a with
  | zero =>
    have : nI 0 - 1 = (-1 : Int32) := by decide
    rw [this, Int32.lt_iff_toInt_lt, nI_toInt hk]
    have : (-1 : Int32).toInt = -1 := by decide
    omega
  | succ a => rw [nI_pred, lt_nI (by omega) (by omega)]; omega
theorem m1_ltF {a k : Nat} (h : ¬ a ≤ k) (ha : a < 2 ^ 31) : (nI a - 1 < nI k) = False := by
  refine eq_false ?_
  cases a with
  | zero => omega
  | succ a => rw [nI_pred, lt_nI (by omega) (by omega)]; omega
def cR (H : Nat → Nat → Bool) (m i : Nat) : Nat := sm m (fun j => if H j i = true then 1 else 0)
theorem r_best68 {s : Mem} {n b d m dm : Nat} {H : Nat → Nat → Bool} {o : Nat → Nat} {k43 : Int32 → Int32 → Int32 → Int32 → Int32 → Int32 → Mem → Option (Int32 × Mem)} (hn : n ≤ 6) (hb : b < n) (hd : d ≤ 6) (hm : m < 720) (hdm : dm < 8) (h3 : s.1 169 3 = nI n) (ho : ∀ k, k < n → s.1 189 k = nI (o k) ∧ o k < n) (hs : s.1 194 m = nI dm) (hH : ∀ k, k < n → H m k = (decide (o k = b) && decide (dm ≤ d))) : ∀ e k fu L mo al, k + e = n → e + 1 ≤ fu → al ≤ m + 1 → Jb n (fun i => cR H m i + (if i < k ∧ H m i = true then 1 else 0)) L mo al → ∃ L' mo' al', Jb n (cR H (m + 1)) L' mo' al' ∧ fX10_best_68 k43 fu (nI b) (nI d) (nI L) (nI mo - 1) (nI al) (nI m) (nI k) s = k43 (nI b) (nI d) (nI L') (nI mo' - 1) (nI al') (nI (m + 1)) s := by
  have f0 : ∀ N : Mem, fX10_flag 0 N = some (0, N) := fun N => r_flagI (Or.inl rfl)
  have f1 : ∀ N : Mem, fX10_flag 1 N = some (1, N) := fun N => r_flagI (Or.inr rfl)
  intro e
  induction e with
  | zero =>
    intro k fu L mo al hk hfu hal hJ
    have hk : k = n := hk
    subst hk
    obtain ⟨fu, rfl⟩ : ∃ m, fu = m + 1 := ⟨fu - 1, by omega⟩
    refine ⟨L, mo, al, jb_congr hJ (fun i hi => ?_), ?_⟩
    · show cR H m i + (if H m i = true then 1 else 0) = cR H m i + (if i < k ∧ H m i = true then 1 else 0)
      by_cases c : H m i = true
      · rw [if_pos c, if_pos ⟨hi, c⟩]
      · rw [if_neg c, if_neg (fun q => c q.2)]
    · rw [e_X10_best_68]
      simp (disch := omega) only [↓reduceIte, ic_t, ic_f, not_true_eq_false, not_false_eq_true, ↓lt_v, leT, leTc, leTd, leF, leFc, leFd, ltT, ltTc, ltTd, ltF, ltFc, ltFd, eqT, eqTc, eqTd, eqF, eqFc, eqFd, m1T, m1F, m1T', m1F', inb_nI, ix_nI, inb_c, ix_c, nI_1, nI_pred, nI_m1, add_nIc, add_cnI, bd_v, reduceCtorEq, eqFcc, m1e0, m1e1, m1l0, m1g0, m2l0, m2g0, Int32.reduceLT, Int32.reduceLE, Int32.reduceAdd, Int32.reduceSub, Int32.reduceMul, eq_self, Bool.false_eq_true, h3]
  | succ e ih =>
    intro k fu L mo al hk hfu hal hJ
    obtain ⟨fu, rfl⟩ : ∃ m, fu = m + 1 := ⟨fu - 1, by omega⟩
    obtain ⟨o1, o2⟩ := ho k (by omega)
    have hl6 : L ≤ 6 := by rcases hJ.2.1 with ⟨a, _⟩ | ⟨a, _⟩ <;> omega
    have hmo := hJ.2.2.1
    have hHk := hH k (by omega)
    by_cases c : H m k = true
    · have c2 := c
      rw [hHk, Bool.and_eq_true] at c2
      have ob := of_decide_eq_true c2.1
      have od := of_decide_eq_true c2.2
      have J2 := jb_hit (C' := fun i => cR H m i + (if i < k + 1 ∧ H m i = true then 1 else 0)) hn (show k < n by omega) hJ (fun i hi => by
        show _ = cR H m i + (if i < k ∧ H m i = true then 1 else 0) + (if i = k then 1 else 0)
        by_cases e1 : i = k
        · subst e1
          rw [if_pos ⟨by omega, c⟩, if_neg (by omega), if_pos rfl]
        · by_cases e2 : i < k + 1 ∧ H m i = true
          · rw [if_pos e2, if_pos ⟨by omega, e2.2⟩, if_neg e1]
          · rw [if_neg e2, if_neg (fun q => e2 ⟨by omega, q.2⟩), if_neg e1])
      have eal : al ≤ m + 1 := hal
      have alb : (if k < L then 0 else al) + (if k = min L k then 1 else 0) ≤ m + 1 := by
        by_cases c1 : k < L
        · rw [if_pos c1, if_pos (by omega)]; omega
        · rw [if_neg c1]
          by_cases c3 : k = min L k
          · rw [if_pos c3]
            rcases hJ.2.1 with ⟨a, a2, a3⟩ | ⟨a, _⟩
            · have : L = k := by omega
              subst this
              have a4 : al = cR H m L + (if L < L ∧ H m L = true then 1 else 0) := a3
              have hle : cR H m L ≤ m := sm_01 (P := fun j => H j L = true) m
              rw [if_neg (by omega)] at a4
              omega
            · omega
          · rw [if_neg c3]; omega
      obtain ⟨L', mo', al', j1, j2⟩ := ih (k + 1) fu (min L k) (max mo (k + 1)) _ (by omega) (by omega) alb J2
      refine ⟨L', mo', al', j1, ?_⟩
      rw [← j2, e_X10_best_68]
      simp (disch := omega) only [↓reduceIte, ic_t, ic_f, not_true_eq_false, not_false_eq_true, ↓lt_v, leT, leTc, leTd, leF, leFc, leFd, ltT, ltTc, ltTd, ltF, ltFc, ltFd, eqT, eqTc, eqTd, eqF, eqFc, eqFd, m1T, m1F, m1T', m1F', inb_nI, ix_nI, inb_c, ix_c, nI_1, nI_pred, nI_m1, add_nIc, add_cnI, bd_v, reduceCtorEq, eqFcc, m1e0, m1e1, m1l0, m1g0, m2l0, m2g0, Int32.reduceLT, Int32.reduceLE, Int32.reduceAdd, Int32.reduceSub, Int32.reduceMul, eq_self, Bool.false_eq_true, h3, o1, hs, e_X10_best_104]
      by_cases cl : k < L
      · rw [if_pos cl, show min L k = k by omega, if_pos rfl]
        by_cases cm : mo ≤ k
        · rw [show max mo (k + 1) = k + 1 by omega]
          simp (disch := omega) only [↓reduceIte, ic_t, ic_f, not_true_eq_false, not_false_eq_true, ↓lt_v, leT, leTc, leTd, leF, leFc, leFd, ltT, ltTc, ltTd, ltF, ltFc, ltFd, eqT, eqTc, eqTd, eqF, eqFc, eqFd, m1T, m1F, m1T', m1F', inb_nI, ix_nI, inb_c, ix_c, nI_1, nI_pred, nI_m1, add_nIc, add_cnI, bd_v, reduceCtorEq, eqFcc, m1e0, m1e1, m1l0, m1g0, m2l0, m2g0, Int32.reduceLT, Int32.reduceLE, Int32.reduceAdd, Int32.reduceSub, Int32.reduceMul, eq_self, Bool.false_eq_true, e_X10_best_123, e_X10_best_140, e_X10_best_158, e_X10_best_178, f1, m1_ltT]
          rfl
        · rw [show max mo (k + 1) = mo by omega]
          simp (disch := omega) only [↓reduceIte, ic_t, ic_f, not_true_eq_false, not_false_eq_true, ↓lt_v, leT, leTc, leTd, leF, leFc, leFd, ltT, ltTc, ltTd, ltF, ltFc, ltFd, eqT, eqTc, eqTd, eqF, eqFc, eqFd, m1T, m1F, m1T', m1F', inb_nI, ix_nI, inb_c, ix_c, nI_1, nI_pred, nI_m1, add_nIc, add_cnI, bd_v, reduceCtorEq, eqFcc, m1e0, m1e1, m1l0, m1g0, m2l0, m2g0, Int32.reduceLT, Int32.reduceLE, Int32.reduceAdd, Int32.reduceSub, Int32.reduceMul, eq_self, Bool.false_eq_true, e_X10_best_123, e_X10_best_140, e_X10_best_158, e_X10_best_178, f1, m1_ltF]
          rfl
      · rw [if_neg cl, show min L k = L by omega]
        by_cases ck : k = L
        · rw [if_pos ck]
          by_cases cm : mo ≤ k
          · rw [show max mo (k + 1) = k + 1 by omega]
            simp (disch := omega) only [↓reduceIte, ic_t, ic_f, not_true_eq_false, not_false_eq_true, ↓lt_v, leT, leTc, leTd, leF, leFc, leFd, ltT, ltTc, ltTd, ltF, ltFc, ltFd, eqT, eqTc, eqTd, eqF, eqFc, eqFd, m1T, m1F, m1T', m1F', inb_nI, ix_nI, inb_c, ix_c, nI_1, nI_pred, nI_m1, add_nIc, add_cnI, bd_v, reduceCtorEq, eqFcc, m1e0, m1e1, m1l0, m1g0, m2l0, m2g0, Int32.reduceLT, Int32.reduceLE, Int32.reduceAdd, Int32.reduceSub, Int32.reduceMul, eq_self, Bool.false_eq_true, e_X10_best_121, e_X10_best_123, e_X10_best_140, e_X10_best_158, e_X10_best_178, f1, m1_ltT]
          · rw [show max mo (k + 1) = mo by omega]
            simp (disch := omega) only [↓reduceIte, ic_t, ic_f, not_true_eq_false, not_false_eq_true, ↓lt_v, leT, leTc, leTd, leF, leFc, leFd, ltT, ltTc, ltTd, ltF, ltFc, ltFd, eqT, eqTc, eqTd, eqF, eqFc, eqFd, m1T, m1F, m1T', m1F', inb_nI, ix_nI, inb_c, ix_c, nI_1, nI_pred, nI_m1, add_nIc, add_cnI, bd_v, reduceCtorEq, eqFcc, m1e0, m1e1, m1l0, m1g0, m2l0, m2g0, Int32.reduceLT, Int32.reduceLE, Int32.reduceAdd, Int32.reduceSub, Int32.reduceMul, eq_self, Bool.false_eq_true, e_X10_best_121, e_X10_best_123, e_X10_best_140, e_X10_best_158, e_X10_best_178, f1, m1_ltF]
        · rw [if_neg ck]
          by_cases cm : mo ≤ k
          · rw [show max mo (k + 1) = k + 1 by omega]
            simp (disch := omega) only [↓reduceIte, ic_t, ic_f, not_true_eq_false, not_false_eq_true, ↓lt_v, leT, leTc, leTd, leF, leFc, leFd, ltT, ltTc, ltTd, ltF, ltFc, ltFd, eqT, eqTc, eqTd, eqF, eqFc, eqFd, m1T, m1F, m1T', m1F', inb_nI, ix_nI, inb_c, ix_c, nI_1, nI_pred, nI_m1, add_nIc, add_cnI, bd_v, reduceCtorEq, eqFcc, m1e0, m1e1, m1l0, m1g0, m2l0, m2g0, Int32.reduceLT, Int32.reduceLE, Int32.reduceAdd, Int32.reduceSub, Int32.reduceMul, eq_self, Bool.false_eq_true, e_X10_best_121, e_X10_best_123, e_X10_best_140, e_X10_best_158, e_X10_best_177, e_X10_best_178, f0, m1_ltT]
          · rw [show max mo (k + 1) = mo by omega]
            simp (disch := omega) only [↓reduceIte, ic_t, ic_f, not_true_eq_false, not_false_eq_true, ↓lt_v, leT, leTc, leTd, leF, leFc, leFd, ltT, ltTc, ltTd, ltF, ltFc, ltFd, eqT, eqTc, eqTd, eqF, eqFc, eqFd, m1T, m1F, m1T', m1F', inb_nI, ix_nI, inb_c, ix_c, nI_1, nI_pred, nI_m1, add_nIc, add_cnI, bd_v, reduceCtorEq, eqFcc, m1e0, m1e1, m1l0, m1g0, m2l0, m2g0, Int32.reduceLT, Int32.reduceLE, Int32.reduceAdd, Int32.reduceSub, Int32.reduceMul, eq_self, Bool.false_eq_true, e_X10_best_121, e_X10_best_123, e_X10_best_140, e_X10_best_158, e_X10_best_177, e_X10_best_178, f0, m1_ltF]
    · have J2 := jb_congr (C' := fun i => cR H m i + (if i < k + 1 ∧ H m i = true then 1 else 0)) hJ (fun i hi => by
        show _ = cR H m i + (if i < k ∧ H m i = true then 1 else 0)
        by_cases e1 : i = k
        · subst e1
          rw [if_neg (fun q => c q.2), if_neg (fun q => c q.2)]
        · by_cases e2 : i < k + 1 ∧ H m i = true
          · rw [if_pos e2, if_pos ⟨by omega, e2.2⟩]
          · rw [if_neg e2, if_neg (fun q => e2 ⟨by omega, q.2⟩)])
      obtain ⟨L', mo', al', j1, j2⟩ := ih (k + 1) fu L mo al (by omega) (by omega) hal J2
      refine ⟨L', mo', al', j1, ?_⟩
      have miss : fX10_best_103 (fX10_best_68 k43 fu) (nI b) (nI d) (nI L) (nI mo - 1) (nI al) (nI m) (nI k) s = fX10_best_68 k43 fu (nI b) (nI d) (nI L) (nI mo - 1) (nI al) (nI m) (nI (k + 1)) s := by
        rw [e_X10_best_103, e_X10_best_104]
        simp (disch := omega) only [↓reduceIte, ic_t, ic_f, not_true_eq_false, not_false_eq_true, ↓lt_v, leT, leTc, leTd, leF, leFc, leFd, ltT, ltTc, ltTd, ltF, ltFc, ltFd, eqT, eqTc, eqTd, eqF, eqFc, eqFd, m1T, m1F, m1T', m1F', inb_nI, ix_nI, inb_c, ix_c, nI_1, nI_pred, nI_m1, add_nIc, add_cnI, bd_v, reduceCtorEq, eqFcc, m1e0, m1e1, m1l0, m1g0, m2l0, m2g0, Int32.reduceLT, Int32.reduceLE, Int32.reduceAdd, Int32.reduceSub, Int32.reduceMul, eq_self, Bool.false_eq_true, e_X10_best_121, e_X10_best_123, e_X10_best_140, e_X10_best_158, e_X10_best_177, e_X10_best_178, f0]
        rw [Nat.add_zero]
      rw [← j2, ← miss, e_X10_best_68]
      by_cases c3 : o k = b
      · have c4 : ¬ dm ≤ d := fun q => c (by rw [hHk, decide_eq_true c3, decide_eq_true q]; rfl)
        simp (disch := omega) only [↓reduceIte, ic_t, ic_f, not_true_eq_false, not_false_eq_true, ↓lt_v, leT, leTc, leTd, leF, leFc, leFd, ltT, ltTc, ltTd, ltF, ltFc, ltFd, eqT, eqTc, eqTd, eqF, eqFc, eqFd, m1T, m1F, m1T', m1F', inb_nI, ix_nI, inb_c, ix_c, nI_1, nI_pred, nI_m1, add_nIc, add_cnI, bd_v, reduceCtorEq, eqFcc, m1e0, m1e1, m1l0, m1g0, m2l0, m2g0, Int32.reduceLT, Int32.reduceLE, Int32.reduceAdd, Int32.reduceSub, Int32.reduceMul, eq_self, Bool.false_eq_true, h3, o1, hs]
      · simp (disch := omega) only [↓reduceIte, ic_t, ic_f, not_true_eq_false, not_false_eq_true, ↓lt_v, leT, leTc, leTd, leF, leFc, leFd, ltT, ltTc, ltTd, ltF, ltFc, ltFd, eqT, eqTc, eqTd, eqF, eqFc, eqFd, m1T, m1F, m1T', m1F', inb_nI, ix_nI, inb_c, ix_c, nI_1, nI_pred, nI_m1, add_nIc, add_cnI, bd_v, reduceCtorEq, eqFcc, m1e0, m1e1, m1l0, m1g0, m2l0, m2g0, Int32.reduceLT, Int32.reduceLE, Int32.reduceAdd, Int32.reduceSub, Int32.reduceMul, eq_self, Bool.false_eq_true, h3, o1, hs]
