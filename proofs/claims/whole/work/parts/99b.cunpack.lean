/-! PURE: class: an order by its number, the number of an order -/
theorem chk1_n {n : Nat} (hn : n ≤ 6) {j : Nat} (hj : j < fac n) : Prm n (un n j) ∧ lh n (un n j) n = j ∧ ∀ k, k < n → (uR n j k).1 / fac (n - 1 - k) < 6 := by
  have h := allB_i 7 chk1_ok n (by omega)
  have h := allB_i (fac n) h j hj
  rw [Bool.and_eq_true] at h
  obtain ⟨h1, h2⟩ := h
  have h1 : ∀ k, k < n → un n j k < n ∧ (uR n j k).1 / fac (n - 1 - k) < 6 ∧ ∀ i, i < k → un n j i ≠ un n j k := fun k hk => by
    have q := allB_i n h1 k hk
    rw [Bool.and_eq_true, Bool.and_eq_true] at q
    refine ⟨of_decide_eq_true q.1.1, of_decide_eq_true q.1.2, fun i hi e => ?_⟩
    have := allB_i k q.2 i hi
    rw [e] at this
    simp at this
  refine ⟨⟨fun i hi => (h1 i hi).1, fun i i' hi hi' e => ?_⟩, eq_of_beq h2, fun k hk => (h1 k hk).2.1⟩
  rcases Nat.lt_trichotomy i i' with q | q | q
  · exact absurd e ((h1 i' hi').2.2 i q)
  · exact q
  · exact absurd e.symm ((h1 i hi).2.2 i' q)
theorem fac_pos : ∀ n, 0 < fac n
  | 0 => Nat.one_pos
  | n + 1 => Nat.mul_pos (Nat.succ_pos n) (fac_pos n)
theorem fac_le {n : Nat} (hn : n ≤ 6) : fac n ≤ 720 := by
  have h : ∀ n, n < 7 → fac n ≤ 720 := by decide
  exact h n (by omega)
theorem lh_fac {n : Nat} {o : Nat → Nat} (hn : n ≤ 6) : lh n o n < fac n := by
  have h : ∀ i, cs n o i ≤ n - 1 - i := fun i => cs_le n
  have f0 : fac 0 = 1 := rfl
  have f1 : fac 1 = 1 := rfl
  have f2 : fac 2 = 2 := rfl
  have f3 : fac 3 = 6 := rfl
  have f4 : fac 4 = 24 := rfl
  have f5 : fac 5 = 120 := rfl
  have f6 : fac 6 = 720 := rfl
  have h0 := h 0
  have h1 := h 1
  have h2 := h 2
  have h3 := h 3
  have h4 := h 4
  have h5 := h 5
  rcases (show n = 0 ∨ n = 1 ∨ n = 2 ∨ n = 3 ∨ n = 4 ∨ n = 5 ∨ n = 6 by omega) with e | e | e | e | e | e | e <;> subst e
  all_goals (simp only [lh, Nat.reduceSub, Nat.sub_zero, f0, f1, f2, f3, f4, f5, f6] at h0 h1 h2 h3 h4 h5 ⊢; omega)
theorem un_lh {n : Nat} {o : Nat → Nat} (hn : n ≤ 6) (ho : Prm n o) : ∀ k, k < n → un n (lh n o n) k = o k := by
  obtain ⟨h1, h2, h3⟩ := chk1_n hn (lh_fac (o := o) hn)
  exact lh_inj hn h1 ho h2
theorem nbl_lt {f : Nat} : ∀ d s, nbl f d s < 6
  | 0, _ => by unfold nbl; omega
  | d + 1, s => by
    unfold nbl
    split
    · split
      · omega
      · exact nbl_lt d (s - 1)
    · exact nbl_lt d s
theorem uR_lt {n j : Nat} (hn : n ≤ 6) : ∀ k, (uR n j k).2 < 64
  | 0 => (bt_all n hn).2.1
  | k + 1 => Nat.lt_of_le_of_lt Nat.and_le_left (uR_lt hn k)
theorem uR_1 {n j : Nat} (hj : j < fac n) : ∀ k, k ≤ n → (uR n j k).1 < fac (n - k)
  | 0, _ => hj
  | k + 1, hk => by
    have : n - (k + 1) = n - 1 - k := by omega
    rw [this]
    exact Nat.mod_lt _ (fac_pos _)
theorem c_nthBit {M : Mem} {f s : Nat} (hf : f < 64) (hs : s < 100) : fX1_nthBit (nI f) (nI s) M = some (nI (nbl f 6 s), M) := by
  have go : ∀ d, d ≤ 6 → ∀ t fu, t ≤ s → d + 1 ≤ fu → fX1_nthBit_4 fu (nI f) (nI s) (nI t) (nI (6 - d)) M = some (nI (nbl f d (s - t)), M) := by
    intro d
    induction d with
    | zero =>
      intro _ t fu ht hf
      obtain ⟨fu, rfl⟩ : ∃ m, fu = m + 1 := ⟨fu - 1, by omega⟩
      rw [e_X1_nthBit_4]
      simp (disch := omega) only [↓reduceIte, ic_t, ic_f, not_true_eq_false, not_false_eq_true, ↓lt_v, leT, leTc, leTd, leF, leFc, leFd, ltT, ltTc, ltTd, ltF, ltFc, ltFd, eqT, eqTc, eqTd, eqF, eqFc, eqFd, m1T, m1F, m1T', m1F', inb_nI, ix_nI, inb_c, ix_c, nI_1, nI_pred, nI_m1, add_nIc, add_cnI, bd_v, reduceCtorEq, eqFcc, m1e0, m1e1, m1l0, m1g0, m2l0, m2g0, Int32.reduceLT, Int32.reduceLE, Int32.reduceAdd, Int32.reduceSub, Int32.reduceMul, eq_self, Bool.false_eq_true]
      rfl
    | succ d ih =>
      intro hd t fu ht hfu
      obtain ⟨fu, rfl⟩ : ∃ m, fu = m + 1 := ⟨fu - 1, by omega⟩
      have hb := bt_bit f hf (6 - (d + 1)) (by omega)
      have e6 : 6 - (d + 1) + 1 = 6 - d := by omega
      rw [e_X1_nthBit_4, hb]
      unfold nbl
      cases h : f.testBit (6 - (d + 1))
      · simp (disch := omega) only [↓reduceIte, ic_t, ic_f, not_true_eq_false, not_false_eq_true, ↓lt_v, leT, leTc, leTd, leF, leFc, leFd, ltT, ltTc, ltTd, ltF, ltFc, ltFd, eqT, eqTc, eqTd, eqF, eqFc, eqFd, m1T, m1F, m1T', m1F', inb_nI, ix_nI, inb_c, ix_c, nI_1, nI_pred, nI_m1, add_nIc, add_cnI, bd_v, reduceCtorEq, eqFcc, m1e0, m1e1, m1l0, m1g0, m2l0, m2g0, Int32.reduceLT, Int32.reduceLE, Int32.reduceAdd, Int32.reduceSub, Int32.reduceMul, eq_self, Bool.false_eq_true, bI_0, e6]
        exact ih (by omega) t fu ht (by omega)
      · by_cases c : t = s
        · subst c
          have : t - t = 0 := by omega
          simp (disch := omega) only [↓reduceIte, ic_t, ic_f, not_true_eq_false, not_false_eq_true, ↓lt_v, leT, leTc, leTd, leF, leFc, leFd, ltT, ltTc, ltTd, ltF, ltFc, ltFd, eqT, eqTc, eqTd, eqF, eqFc, eqFd, m1T, m1F, m1T', m1F', inb_nI, ix_nI, inb_c, ix_c, nI_1, nI_pred, nI_m1, add_nIc, add_cnI, bd_v, reduceCtorEq, eqFcc, m1e0, m1e1, m1l0, m1g0, m2l0, m2g0, Int32.reduceLT, Int32.reduceLE, Int32.reduceAdd, Int32.reduceSub, Int32.reduceMul, eq_self, Bool.false_eq_true, bI_0, e6, this]
        · simp (disch := omega) only [↓reduceIte, ic_t, ic_f, not_true_eq_false, not_false_eq_true, ↓lt_v, leT, leTc, leTd, leF, leFc, leFd, ltT, ltTc, ltTd, ltF, ltFc, ltFd, eqT, eqTc, eqTd, eqF, eqFc, eqFd, m1T, m1F, m1T', m1F', inb_nI, ix_nI, inb_c, ix_c, nI_1, nI_pred, nI_m1, add_nIc, add_cnI, bd_v, reduceCtorEq, eqFcc, m1e0, m1e1, m1l0, m1g0, m2l0, m2g0, Int32.reduceLT, Int32.reduceLE, Int32.reduceAdd, Int32.reduceSub, Int32.reduceMul, eq_self, Bool.false_eq_true, bI_0, e6]
          rw [if_neg (by omega), show s - t - 1 = s - (t + 1) by omega]
          exact ih (by omega) (t + 1) fu (by omega) (by omega)
  rw [e_X1_nthBit]
  exact go 6 (by omega) 0 FU (by omega) (by have := FU_big; omega)
theorem bt_pow : ∀ b, b < 6 → (1 <<< (nI b &&& 31) : Int32) = nI (2 ^ b) ∧ 2 ^ b < 64 ∧ 0 < 2 ^ b := by decide +kernel
theorem c_unpack {M : Mem} {n j : Nat} (hn : n ≤ 6) (hj : j < fac n) (e0 : M.1 115 0 = nI n) (e1 : M.1 115 1 = nI (fac n)) : Ok (fX1_unpack (nI j) M) (fun M' => (∀ k, k < n → M'.1 139 k = nI (un n j k)) ∧ Fr (fun a => a = 139) M M') := by
  have hf := fac_le hn
  obtain ⟨_, _, c3⟩ := chk1_n hn hj
  rw [e_X1_unpack]
  simp (disch := omega) only [↓reduceIte, ic_t, ic_f, not_true_eq_false, not_false_eq_true, ↓lt_v, rdR, rdE, rdS, leT, leTc, leTd, leF, leFc, leFd, ltT, ltTc, ltTd, ltF, ltFc, ltFd, eqT, eqTc, eqTd, eqF, eqFc, eqFd, m1T, m1F, m1T', m1F', inb_nI, ix_nI, inb_c, ix_c, nI_1, nI_pred, nI_m1, add_nIc, add_cnI, bd_v, reduceCtorEq, eqFcc, m1e0, m1e1, m1l0, m1g0, m2l0, m2g0, Int32.reduceLT, Int32.reduceLE, Int32.reduceAdd, Int32.reduceSub, Int32.reduceMul, eq_self, Bool.false_eq_true, e0, e1, (bt_all n hn).1]
  have hFU : 2000 < FU := FU_big
  generalize FU = fu0 at hFU ⊢
  refine ok_loop n (fun fu k s => fX1_unpack_20 fu (nI (uR n j k).1) (nI (fac (n - k))) (nI (uR n j k).2) (nI k) s) (fun k s => (∀ i, i < k → s.1 139 i = nI (un n j i)) ∧ Fr (fun a => a = 139) M s) ?_ ?_ fu0 0 M (by omega) (by omega) ⟨fun i hi => absurd hi (Nat.not_lt_zero _), fr_rfl⟩
  · intro fu k s hk hs ih
    obtain ⟨b1, b2⟩ := hs
    have s0 : s.1 115 0 = nI n := by rw [b2.1 115 (by omega)]; exact e0
    have efac : fac (n - k) = (n - k) * fac (n - 1 - k) := by
      rw [show n - k = (n - 1 - k) + 1 by omega]; rfl
    have hp := fac_pos (n - 1 - k)
    have hq : fac (n - 1 - k) ≤ 720 := fac_le (by omega)
    have hq2 : fac (n - k) ≤ 720 := fac_le (by omega)
    have ediv : fac (n - k) / (n - k) = fac (n - 1 - k) := by rw [efac]; exact Nat.mul_div_cancel_left _ (by omega)
    have r1 := uR_1 hj k (by omega)
    have r2 := uR_lt (j := j) hn k
    have c3k := c3 k hk
    have hb := nbl_lt (f := (uR n j k).2) 6 ((uR n j k).1 / fac (n - 1 - k))
    have p := bt_pow _ hb
    have esk : nI (uR n j k).1 - nI ((uR n j k).1 / fac (n - 1 - k)) * nI (fac (n - 1 - k)) = nI (uR n j (k + 1)).1 := by
      have hm := Nat.div_add_mod (uR n j k).1 (fac (n - 1 - k))
      rw [Nat.mul_comm] at hm
      rw [pk_mul, pk_sub (by omega)]
      show _ = nI ((uR n j k).1 % fac (n - 1 - k))
      congr 1
      omega
    have ebit : nI (uR n j k).2 &&& (nI (2 ^ un n j k) ^^^ (-1)) = nI (uR n j (k + 1)).2 := ((bt_not _ r2 _ p.2.1).1).1
    have esub : n - (k + 1) = n - 1 - k := by omega
    have p1 : (1 <<< (nI (un n j k) &&& 31) : Int32) = nI (2 ^ un n j k) := p.1
    have en : nbl (uR n j k).2 6 ((uR n j k).1 / fac (n - 1 - k)) = un n j k := rfl
    have q1 : ¬ nI (n - k) = 0 := by rw [show (0 : Int32) = nI 0 from rfl, nI_eq (by omega) (by omega)]; omega
    have q2 : ¬ nI (fac (n - 1 - k)) = 0 := by rw [show (0 : Int32) = nI 0 from rfl, nI_eq (by omega) (by omega)]; omega
    rw [e_X1_unpack_20, s0]
    rw [ic_neg (by rw [le_nI (by omega) (by omega)]; omega), pk_sub (by omega), ic_pos q1, lt_v, pk_div (by omega) (by omega) (by omega), ediv]
    simp (disch := omega) only [↓reduceIte, ic_t, ic_f, not_true_eq_false, not_false_eq_true, ↓lt_v, rdR, rdE, rdS, leT, leTc, leTd, leF, leFc, leFd, ltT, ltTc, ltTd, ltF, ltFc, ltFd, eqT, eqTc, eqTd, eqF, eqFc, eqFd, m1T, m1F, m1T', m1F', inb_nI, ix_nI, inb_c, ix_c, nI_1, nI_pred, nI_m1, add_nIc, add_cnI, bd_v, reduceCtorEq, eqFcc, m1e0, m1e1, m1l0, m1g0, m2l0, m2g0, Int32.reduceLT, Int32.reduceLE, Int32.reduceAdd, Int32.reduceSub, Int32.reduceMul, eq_self, Bool.false_eq_true, q2, pk_div, e_X1_unpack_50, esk]
    rw [c_nthBit r2 (by omega), en]
    simp (disch := omega) only [↓reduceIte, ic_t, ic_f, not_true_eq_false, not_false_eq_true, ↓lt_v, rdR, rdE, rdS, leT, leTc, leTd, leF, leFc, leFd, ltT, ltTc, ltTd, ltF, ltFc, ltFd, eqT, eqTc, eqTd, eqF, eqFc, eqFd, m1T, m1F, m1T', m1F', inb_nI, ix_nI, inb_c, ix_c, nI_1, nI_pred, nI_m1, add_nIc, add_cnI, bd_v, reduceCtorEq, eqFcc, m1e0, m1e1, m1l0, m1g0, m2l0, m2g0, Int32.reduceLT, Int32.reduceLE, Int32.reduceAdd, Int32.reduceSub, Int32.reduceMul, eq_self, Bool.false_eq_true, p1, ebit]
    have := ih (sI s 139 k (nI (un n j k))) ⟨fun i hi => ?_, fr_trans b2 (fr_sI rfl)⟩
    · rw [esub] at this
      exact this
    · by_cases e : i = k
      · subst e; simp (disch := omega) only [↓reduceIte, ic_t, ic_f, not_true_eq_false, not_false_eq_true, ↓lt_v, rdR, rdE, rdS, leT, leTc, leTd, leF, leFc, leFd, ltT, ltTc, ltTd, ltF, ltFc, ltFd, eqT, eqTc, eqTd, eqF, eqFc, eqFd, m1T, m1F, m1T', m1F', inb_nI, ix_nI, inb_c, ix_c, nI_1, nI_pred, nI_m1, add_nIc, add_cnI, bd_v, reduceCtorEq, eqFcc, m1e0, m1e1, m1l0, m1g0, m2l0, m2g0, Int32.reduceLT, Int32.reduceLE, Int32.reduceAdd, Int32.reduceSub, Int32.reduceMul, eq_self, Bool.false_eq_true]
      · simp (disch := omega) only [↓reduceIte, ic_t, ic_f, not_true_eq_false, not_false_eq_true, ↓lt_v, rdR, rdE, rdS, leT, leTc, leTd, leF, leFc, leFd, ltT, ltTc, ltTd, ltF, ltFc, ltFd, eqT, eqTc, eqTd, eqF, eqFc, eqFd, m1T, m1F, m1T', m1F', inb_nI, ix_nI, inb_c, ix_c, nI_1, nI_pred, nI_m1, add_nIc, add_cnI, bd_v, reduceCtorEq, eqFcc, m1e0, m1e1, m1l0, m1g0, m2l0, m2g0, Int32.reduceLT, Int32.reduceLE, Int32.reduceAdd, Int32.reduceSub, Int32.reduceMul, eq_self, Bool.false_eq_true]; exact b1 i (by omega)
  · intro fu s hs
    have s0 : s.1 115 0 = nI n := by rw [hs.2.1 115 (by omega)]; exact e0
    rw [e_X1_unpack_20]
    simp (disch := omega) only [↓reduceIte, ic_t, ic_f, not_true_eq_false, not_false_eq_true, ↓lt_v, rdR, rdE, rdS, leT, leTc, leTd, leF, leFc, leFd, ltT, ltTc, ltTd, ltF, ltFc, ltFd, eqT, eqTc, eqTd, eqF, eqFc, eqFd, m1T, m1F, m1T', m1F', inb_nI, ix_nI, inb_c, ix_c, nI_1, nI_pred, nI_m1, add_nIc, add_cnI, bd_v, reduceCtorEq, eqFcc, m1e0, m1e1, m1l0, m1g0, m2l0, m2g0, Int32.reduceLT, Int32.reduceLE, Int32.reduceAdd, Int32.reduceSub, Int32.reduceMul, eq_self, Bool.false_eq_true, s0]
    exact ok_some hs
/-- the class's way to number an order -/
def hF (n : Nat) (o : Nat → Nat) : Nat → Nat
  | 0 => 2 ^ n - 1
  | k + 1 => hF n o k &&& (63 ^^^ 2 ^ o k)
def hcn (n : Nat) (o : Nat → Nat) (k : Nat) : Nat := cnt (fun b => (hF n o k &&& (2 ^ o k - 1)).testBit b) 6
def hN (n : Nat) (o : Nat → Nat) : Nat → Nat
  | 0 => 0
  | k + 1 => hN n o k * (n - k) + hcn n o k
def chk2 (n : Nat) : Bool := allB (fac n) (fun j => allB n (fun k => hcn n (un n j) k == cs n (un n j) k))
theorem chk2_ok : allB 7 chk2 = true := by decide +kernel
theorem hF_congr {n : Nat} {o p : Nat → Nat} (h : ∀ i, i < n → o i = p i) : ∀ k, k ≤ n → hF n o k = hF n p k
  | 0, _ => rfl
  | k + 1, hk => by
    show hF n o k &&& (63 ^^^ 2 ^ o k) = hF n p k &&& (63 ^^^ 2 ^ p k)
    rw [hF_congr h k (by omega), h k (by omega)]
theorem hcn_cs {n : Nat} {o : Nat → Nat} (hn : n ≤ 6) (ho : Prm n o) {k : Nat} (hk : k < n) : hcn n o k = cs n o k := by
  have hu := un_lh hn ho
  have h := allB_i 7 chk2_ok n (by omega)
  have h := allB_i (fac n) h (lh n o n) (lh_fac hn)
  have h := eq_of_beq (allB_i n h k hk)
  have e1 : hcn n (un n (lh n o n)) k = hcn n o k := by
    unfold hcn
    rw [hF_congr hu k (by omega), hu k hk]
  have e2 : cs n (un n (lh n o n)) k = cs n o k := sm_congr n (fun j hj => by rw [hu j hj, hu k hk])
  rw [← e1, h, e2]
theorem hN_lh {n : Nat} {o : Nat → Nat} (hn : n ≤ 6) (ho : Prm n o) : ∀ k, k ≤ n → hN n o k * fac (n - k) = lh n o k
  | 0, _ => by show 0 * _ = 0; rw [Nat.zero_mul]
  | k + 1, hk => by
    have ih := hN_lh hn ho k (by omega)
    have efac : fac (n - k) = (n - k) * fac (n - 1 - k) := by
      rw [show n - k = (n - 1 - k) + 1 by omega]; rfl
    show (hN n o k * (n - k) + hcn n o k) * fac (n - (k + 1)) = lh n o k + cs n o k * fac (n - 1 - k)
    rw [← ih, hcn_cs hn ho (by omega), efac, show n - (k + 1) = n - 1 - k by omega, Nat.add_mul, Nat.mul_assoc]
