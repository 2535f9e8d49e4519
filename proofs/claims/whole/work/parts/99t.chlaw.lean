/-! PURE: chart: one day of it -/
theorem oG_prmP {L n p : Nat} {f : Nat → Nat} (hn : n ≤ 6) (h : ∀ i, i < n → oG L n f p i) : Prm n (fun i => f (p + i) - 48) := by
  have lt : ∀ i, i < n → f (p + i) - 48 < n := fun i hi => by
    have := (h i hi).2.2.1
    have := (h i hi).2.1
    omega
  have key : ∀ i j, i < j → j < n → f (p + i) - 48 ≠ f (p + j) - 48 := by
    intro i j hij hj e
    obtain ⟨y1, y2⟩ := oY_b (L := L) (f := f) (p := p) hn j (fun k hk => h k (by omega))
    have hb := (h j hj).2.2.2
    have ht := (y2 (f (p + j) - 48) (by have := lt j hj; omega)).2 ⟨i, hij, e⟩
    rw [ht] at hb
    cases hb
  refine ⟨lt, fun i j hi hj e => ?_⟩
  by_cases c : i = j
  · exact c
  · rcases Nat.lt_or_gt_of_ne c with c | c
    · exact absurd e (key i j c hj)
    · exact absurd e.symm (key j i c hi)
theorem c_relate16 {M : Mem} {n : Nat} {g h : Nat → Nat} (hn : n ≤ 6) (e0 : M.1 16 0 = nI n) (hg : ∀ i, i < n → g i < n) (h142 : ∀ i, i < n → M.1 142 i = nI (g i)) (hp : ∀ i, i < n → M.1 19 (g i) = nI (h i)) : Ok (fX9_relate 16 M) (fun M' => (∀ i, i < n → M'.1 143 i = nI (h i)) ∧ Fr (fun a => a = 143) M M') := by
  rw [e_X9_relate]
  have hFU : 2000 < FU := FU_big
  generalize FU = fu0 at hFU ⊢
  refine ok_loop n (fun fu k s => fX9_relate_2 fu 16 (nI k) s) (fun k s => (∀ i, i < k → s.1 143 i = nI (h i)) ∧ Fr (fun a => a = 143) M s) ?_ ?_ fu0 0 M (by omega) (by omega) ⟨fun i hi => absurd hi (Nat.not_lt_zero _), fr_rfl⟩
  · intro fu k s hk hs ih
    obtain ⟨b1, b2⟩ := hs
    have hgk := hg k hk
    have s0 : s.1 16 0 = nI n := by rw [b2.1 16 (by omega)]; exact e0
    have s1 : s.1 142 k = nI (g k) := by rw [b2.1 142 (by omega)]; exact h142 k hk
    have s2 : s.1 (16 + 3) (g k) = nI (h k) := by rw [b2.1 (16 + 3) (by omega)]; exact hp k hk
    rw [e_X9_relate_2]
    simp (disch := omega) only [↓reduceIte, ic_t, ic_f, not_true_eq_false, not_false_eq_true, ↓lt_v, rdR, rdE, rdS, leT, leTc, leTd, leF, leFc, leFd, ltT, ltTc, ltTd, ltF, ltFc, ltFd, eqT, eqTc, eqTd, eqF, eqFc, eqFd, m1T, m1F, m1T', m1F', inb_nI, ix_nI, inb_c, ix_c, nI_1, nI_pred, nI_m1, add_nIc, add_cnI, bd_v, reduceCtorEq, eqFcc, m1e0, m1e1, m1l0, m1g0, m2l0, m2g0, Int32.reduceLT, Int32.reduceLE, Int32.reduceAdd, Int32.reduceSub, Int32.reduceMul, eq_self, Bool.false_eq_true, s0, s1, e_X4_has, s2]
    refine ih _ ⟨fun i hi => ?_, fr_trans b2 (fr_sI rfl)⟩
    by_cases e : i = k
    · subst e; simp (disch := omega) only [↓reduceIte, ic_t, ic_f, not_true_eq_false, not_false_eq_true, ↓lt_v, rdR, rdE, rdS, leT, leTc, leTd, leF, leFc, leFd, ltT, ltTc, ltTd, ltF, ltFc, ltFd, eqT, eqTc, eqTd, eqF, eqFc, eqFd, m1T, m1F, m1T', m1F', inb_nI, ix_nI, inb_c, ix_c, nI_1, nI_pred, nI_m1, add_nIc, add_cnI, bd_v, reduceCtorEq, eqFcc, m1e0, m1e1, m1l0, m1g0, m2l0, m2g0, Int32.reduceLT, Int32.reduceLE, Int32.reduceAdd, Int32.reduceSub, Int32.reduceMul, eq_self, Bool.false_eq_true]
    · simp (disch := omega) only [↓reduceIte, ic_t, ic_f, not_true_eq_false, not_false_eq_true, ↓lt_v, rdR, rdE, rdS, leT, leTc, leTd, leF, leFc, leFd, ltT, ltTc, ltTd, ltF, ltFc, ltFd, eqT, eqTc, eqTd, eqF, eqFc, eqFd, m1T, m1F, m1T', m1F', inb_nI, ix_nI, inb_c, ix_c, nI_1, nI_pred, nI_m1, add_nIc, add_cnI, bd_v, reduceCtorEq, eqFcc, m1e0, m1e1, m1l0, m1g0, m2l0, m2g0, Int32.reduceLT, Int32.reduceLE, Int32.reduceAdd, Int32.reduceSub, Int32.reduceMul, eq_self, Bool.false_eq_true]; exact b1 i (by omega)
  · intro fu s hs
    obtain ⟨b1, b2⟩ := hs
    have s0 : s.1 16 0 = nI n := by rw [b2.1 16 (by omega)]; exact e0
    rw [e_X9_relate_2]
    simp (disch := omega) only [↓reduceIte, ic_t, ic_f, not_true_eq_false, not_false_eq_true, ↓lt_v, rdR, rdE, rdS, leT, leTc, leTd, leF, leFc, leFd, ltT, ltTc, ltTd, ltF, ltFc, ltFd, eqT, eqTc, eqTd, eqF, eqFc, eqFd, m1T, m1F, m1T', m1F', inb_nI, ix_nI, inb_c, ix_c, nI_1, nI_pred, nI_m1, add_nIc, add_cnI, bd_v, reduceCtorEq, eqFcc, m1e0, m1e1, m1l0, m1g0, m2l0, m2g0, Int32.reduceLT, Int32.reduceLE, Int32.reduceAdd, Int32.reduceSub, Int32.reduceMul, eq_self, Bool.false_eq_true, s0]
    exact ok_some ⟨b1, b2⟩
theorem ln142 : ln 142 = 6 := by decide
theorem c_standAs16 {M : Mem} {n : Nat} {g : Nat → Nat} (hn : n ≤ 6) (e0 : M.1 16 0 = nI n) (hg : Prm n g) (h142 : ∀ i, i < n → M.1 142 i = nI (g i)) : Ok (fX4_standAs 16 142 M) (fun M' => (∀ i, i < n → M'.1 19 (g i) = nI i) ∧ Fr (fun a => a = 19 ∨ a = 20) M M') := by
  have l := ln142
  have e6 : Int32.ofNat 6 = nI 6 := rfl
  rw [e_X4_standAs]
  have hFU : 2000 < FU := FU_big
  generalize FU = fu0 at hFU ⊢
  refine ok_loop n (fun fu k s => fX4_standAs_2 fu 16 142 (nI k) s) (fun k s => (∀ i, i < k → s.1 19 (g i) = nI i) ∧ Fr (fun a => a = 19 ∨ a = 20) M s) ?_ ?_ fu0 0 M (by omega) (by omega) ⟨fun i hi => absurd hi (Nat.not_lt_zero _), fr_rfl⟩
  · intro fu k s hk hs ih
    obtain ⟨b1, b2⟩ := hs
    have hgk := hg.1 k hk
    have s0 : s.1 16 0 = nI n := by rw [b2.1 16 (by omega)]; exact e0
    have s1 : s.1 142 k = nI (g k) := by rw [b2.1 142 (by omega)]; exact h142 k hk
    rw [e_X4_standAs_2, l, e6]
    simp (disch := omega) only [↓reduceIte, ic_t, ic_f, not_true_eq_false, not_false_eq_true, ↓lt_v, rdR, rdE, rdS, leT, leTc, leTd, leF, leFc, leFd, ltT, ltTc, ltTd, ltF, ltFc, ltFd, eqT, eqTc, eqTd, eqF, eqFc, eqFd, m1T, m1F, m1T', m1F', inb_nI, ix_nI, inb_c, ix_c, nI_1, nI_pred, nI_m1, add_nIc, add_cnI, bd_v, reduceCtorEq, eqFcc, m1e0, m1e1, m1l0, m1g0, m2l0, m2g0, Int32.reduceLT, Int32.reduceLE, Int32.reduceAdd, Int32.reduceSub, Int32.reduceMul, eq_self, Bool.false_eq_true, s0, s1, e_X4_put, e_X4_has]
    refine ih _ ⟨fun i hi => ?_, fr_trans b2 (fr_trans (fr_sI (by omega)) (fr_sI (by omega)))⟩
    by_cases e : i = k
    · subst e; simp (disch := omega) only [↓reduceIte, ic_t, ic_f, not_true_eq_false, not_false_eq_true, ↓lt_v, rdR, rdE, rdS, leT, leTc, leTd, leF, leFc, leFd, ltT, ltTc, ltTd, ltF, ltFc, ltFd, eqT, eqTc, eqTd, eqF, eqFc, eqFd, m1T, m1F, m1T', m1F', inb_nI, ix_nI, inb_c, ix_c, nI_1, nI_pred, nI_m1, add_nIc, add_cnI, bd_v, reduceCtorEq, eqFcc, m1e0, m1e1, m1l0, m1g0, m2l0, m2g0, Int32.reduceLT, Int32.reduceLE, Int32.reduceAdd, Int32.reduceSub, Int32.reduceMul, eq_self, Bool.false_eq_true]
    · have ne : g i ≠ g k := fun q => e (hg.2 i k (by omega) hk q)
      simp (disch := omega) only [↓reduceIte, ic_t, ic_f, not_true_eq_false, not_false_eq_true, ↓lt_v, rdR, rdE, rdS, leT, leTc, leTd, leF, leFc, leFd, ltT, ltTc, ltTd, ltF, ltFc, ltFd, eqT, eqTc, eqTd, eqF, eqFc, eqFd, m1T, m1F, m1T', m1F', inb_nI, ix_nI, inb_c, ix_c, nI_1, nI_pred, nI_m1, add_nIc, add_cnI, bd_v, reduceCtorEq, eqFcc, m1e0, m1e1, m1l0, m1g0, m2l0, m2g0, Int32.reduceLT, Int32.reduceLE, Int32.reduceAdd, Int32.reduceSub, Int32.reduceMul, eq_self, Bool.false_eq_true]
      exact b1 i (by omega)
  · intro fu s hs
    obtain ⟨b1, b2⟩ := hs
    have s0 : s.1 16 0 = nI n := by rw [b2.1 16 (by omega)]; exact e0
    rw [e_X4_standAs_2]
    simp (disch := omega) only [↓reduceIte, ic_t, ic_f, not_true_eq_false, not_false_eq_true, ↓lt_v, rdR, rdE, rdS, leT, leTc, leTd, leF, leFc, leFd, ltT, ltTc, ltTd, ltF, ltFc, ltFd, eqT, eqTc, eqTd, eqF, eqFc, eqFd, m1T, m1F, m1T', m1F', inb_nI, ix_nI, inb_c, ix_c, nI_1, nI_pred, nI_m1, add_nIc, add_cnI, bd_v, reduceCtorEq, eqFcc, m1e0, m1e1, m1l0, m1g0, m2l0, m2g0, Int32.reduceLT, Int32.reduceLE, Int32.reduceAdd, Int32.reduceSub, Int32.reduceMul, eq_self, Bool.false_eq_true, s0]
    exact ok_some ⟨b1, b2⟩
def mvd (n : Nat) (o : Nat → Nat) : Nat := sm n (fun k => if o k = k then 0 else 1)
def chk6 (n : Nat) : Bool := allB (fac n) (fun j => !(lawB n (un n j)) || (mvd n (un n j) / 2 == prs n (un n j)))
theorem chk6_ok : allB 7 chk6 = true := by decide +kernel
theorem allB_congr {f g : Nat → Bool} : ∀ n, (∀ i, i < n → f i = g i) → allB n f = allB n g
  | 0, _ => rfl
  | n + 1, h => by
    show (allB n f && f n) = (allB n g && g n)
    rw [allB_congr n (fun i hi => h i (by omega)), h n (by omega)]
theorem fuB_congr {n k : Nat} {o p : Nat → Nat} (h : ∀ i, i < n → o i = p i) (ho : ∀ i, i < n → o i < n) (hk : k < n) : fuB o k = fuB p k := by
  unfold fuB
  rw [← h k hk]
  have hl := ho k hk
  exact allB_congr _ (fun c hc => by rw [h c (by omega)])
theorem lawB_congr {n : Nat} {o p : Nat → Nat} (h : ∀ i, i < n → o i = p i) (ho : ∀ i, i < n → o i < n) : lawB n o = lawB n p := by
  refine allB_congr _ (fun k hk => ?_)
  rw [fuB_congr h ho hk, ← h k hk, h (o k) (ho k hk)]
theorem law_prs {n : Nat} {h : Nat → Nat} (hn : n ≤ 6) (hp : Prm n h) (hl : lawB n h = true) : mvd n h / 2 = prs n h := by
  have hu := un_lh hn hp
  have q := allB_i _ (allB_i 7 chk6_ok n (by omega)) (lh n h n) (lh_fac hn)
  rw [lawB_congr hu (fun i hi => (chk1_n hn (lh_fac (o := h) hn)).1.1 i hi), hl] at q
  have q := eq_of_beq q
  have e1 : mvd n (un n (lh n h n)) = mvd n h := sm_congr n (fun k hk => by rw [hu k hk])
  have e2 : prs n (un n (lh n h n)) = prs n h := sm_congr n (fun k hk => by rw [hu k hk])
  rw [e1, e2] at q
  exact q
theorem law_inv {n : Nat} {h p : Nat → Nat} (hh : ∀ k, k < n → h k < n) (hp : ∀ k, k < n → p k < n) (h1 : ∀ k, k < n → h (p k) = k) (h2 : ∀ k, k < n → p (h k) = k) : lawB n h = (allB n (fun k => decide (p (p k) = k)) && fulB n p) ∧ (lawB n h = true → mvd n p = mvd n h) := by
  have same : (∀ k, k < n → h (h k) = k) → ∀ k, k < n → h k = p k := fun q k hk => by
    have := h2 (h k) (hh k hk)
    rw [q k hk] at this
    exact this.symm
  have same2 : (∀ k, k < n → p (p k) = k) → ∀ k, k < n → h k = p k := fun q k hk => by
    have := h1 (p k) (hp k hk)
    rw [q k hk] at this
    exact this
  have l1 : lawB n h = true → (∀ k, k < n → h (h k) = k) ∧ ∀ k, k < n → fuB h k = true := fun q => by
    refine ⟨fun k hk => ?_, fun k hk => ?_⟩
    · have := allB_i _ q k hk
      rw [Bool.and_eq_true] at this
      exact of_decide_eq_true this.1
    · have := allB_i _ q k hk
      rw [Bool.and_eq_true] at this
      exact this.2
  refine ⟨?_, fun q => ?_⟩
  · apply Bool.eq_iff_iff.2
    rw [Bool.and_eq_true]
    constructor
    · intro q
      obtain ⟨a, b⟩ := l1 q
      have e := same a
      refine ⟨allB_m _ (fun k hk => decide_eq_true ?_), allB_m _ (fun k hk => ?_)⟩
      · rw [← e k hk]
        exact h2 k hk
      · rw [← fuB_congr e hh hk]
        exact b k hk
    · intro ⟨a, b⟩
      have a : ∀ k, k < n → p (p k) = k := fun k hk => of_decide_eq_true (allB_i _ a k hk)
      have e := same2 a
      refine allB_m _ (fun k hk => ?_)
      rw [Bool.and_eq_true]
      refine ⟨decide_eq_true ?_, ?_⟩
      · rw [e k hk]; exact h1 k hk
      · rw [fuB_congr e hh hk]
        exact allB_i _ b k hk
  · have e := same (l1 q).1
    exact sm_congr n (fun k hk => by rw [e k hk])
theorem r_changes {s : Mem} {n : Nat} {o g h oi gi : Nat → Nat} (hn : n ≤ 6) (h3 : s.1 169 3 = nI n) (ho : Prm n o) (hg : Prm n g) (r1 : ∀ k, k < n → s.1 189 k = nI (o k)) (r2 : ∀ k, k < n → s.1 190 k = nI (g k)) (gi1 : ∀ a, a < n → gi a < n) (gi3 : ∀ a k, a < n → k < n → (g k = a ↔ k = gi a)) (hh : Prm n h) (oh : ∀ k, k < n → o (h k) = g k) : Ok (fX10_changesTo 189 190 s) (fun q => q.1 = (if lawB n h = true then nI (prs n h) else -1) ∧ FrR (fun a => a = 193) (fun _ => False) s q.2) := by
  have f0 : ∀ N : Mem, fX10_flag 0 N = some (0, N) := fun N => r_flagI (Or.inl rfl)
  have f1 : ∀ N : Mem, fX10_flag 1 N = some (1, N) := fun N => r_flagI (Or.inr rfl)
  have hpl : ∀ k, k < n → gi (o k) < n := fun k hk => gi1 _ (ho.1 k hk)
  have gg : ∀ a, a < n → g (gi a) = a := fun a ha => (gi3 a (gi a) ha (gi1 a ha)).2 rfl
  have i1 : ∀ k, k < n → h (gi (o k)) = k := fun k hk => by
    have := oh (gi (o k)) (hpl k hk)
    rw [gg _ (ho.1 k hk)] at this
    exact ho.2 _ _ (hh.1 _ (hpl k hk)) hk this
  have i2 : ∀ k, k < n → gi (o (h k)) = k := fun k hk => by
    rw [oh k hk]
    exact ((gi3 (g k) k (hg.1 k hk) hk).1 rfl).symm
  obtain ⟨lw, mv⟩ := law_inv (p := fun k => gi (o k)) hh.1 hpl i1 i2
  generalize hp : (fun k => gi (o k)) = p at lw mv
  have hp : ∀ k, gi (o k) = p k := fun k => by rw [← hp]
  simp only [hp] at lw
  have pl : ∀ k, k < n → p k < n := fun k hk => by rw [← hp]; exact hpl k hk
  rw [e_X10_changesTo]
  have hFU : 2000 < FU := FU_big
  generalize FU = fu0 at hFU ⊢
  refine ok_loop n (fun fu k x => fX10_changesTo_8 fu 189 190 (nI (sm k (fun k => if p k = k then 0 else 1))) 1 (nI k) x) (fun k x => (∀ i, i < k → x.1 193 i = nI (p i)) ∧ FrR (fun a => a = 193) (fun _ => False) s x) ?_ ?_ fu0 0 s (by omega) (by omega) ⟨fun i hi => absurd hi (Nat.not_lt_zero _), frR_rfl⟩
  · intro fu k x hk hx ih
    obtain ⟨w1, w2⟩ := hx
    have t3 : x.1 169 3 = nI n := by rw [w2.2.1 3 (fun q => q)]; exact h3
    have t1 : x.1 189 k = nI (o k) := by rw [w2.1 189 (by omega) (by omega)]; exact r1 k hk
    have hpi := r_placeIn (s := x) (a := o k) (gi := gi) (g := g) hn (hpl k hk) (fun i hi => ⟨by rw [w2.1 190 (by omega) (by omega)]; exact r2 i hi, hg.1 i hi⟩) (ho.1 k hk) (fun i hi => gi3 (o k) i (ho.1 k hk) hi)
    rw [hp k] at hpi
    have hk6 := pl k hk
    have es : sm (k + 1) (fun k => if p k = k then 0 else 1) = sm k (fun k => if p k = k then 0 else 1) + (if p k = k then 0 else 1) := rfl
    have fr : ∀ i, i < k + 1 → (sI x 193 k (nI (p k))).1 193 i = nI (p i) := fun i hi => by
      by_cases e : i = k
      · subst e; simp (disch := omega) only [↓reduceIte, ic_t, ic_f, not_true_eq_false, not_false_eq_true, ↓lt_v, rdR, rdE, rdS, leT, leTc, leTd, leF, leFc, leFd, ltT, ltTc, ltTd, ltF, ltFc, ltFd, eqT, eqTc, eqTd, eqF, eqFc, eqFd, m1T, m1F, m1T', m1F', inb_nI, ix_nI, inb_c, ix_c, nI_1, nI_pred, nI_m1, add_nIc, add_cnI, bd_v, reduceCtorEq, eqFcc, m1e0, m1e1, m1l0, m1g0, m2l0, m2g0, Int32.reduceLT, Int32.reduceLE, Int32.reduceAdd, Int32.reduceSub, Int32.reduceMul, eq_self, Bool.false_eq_true]
      · simp (disch := omega) only [↓reduceIte, ic_t, ic_f, not_true_eq_false, not_false_eq_true, ↓lt_v, rdR, rdE, rdS, leT, leTc, leTd, leF, leFc, leFd, ltT, ltTc, ltTd, ltF, ltFc, ltFd, eqT, eqTc, eqTd, eqF, eqFc, eqFd, m1T, m1F, m1T', m1F', inb_nI, ix_nI, inb_c, ix_c, nI_1, nI_pred, nI_m1, add_nIc, add_cnI, bd_v, reduceCtorEq, eqFcc, m1e0, m1e1, m1l0, m1g0, m2l0, m2g0, Int32.reduceLT, Int32.reduceLE, Int32.reduceAdd, Int32.reduceSub, Int32.reduceMul, eq_self, Bool.false_eq_true]; exact w1 i (by omega)
    have ih := ih (sI x 193 k (nI (p k))) ⟨fr, frR_trans w2 (frR_sI (by omega) (by omega))⟩
    rw [es] at ih
    rw [e_X10_changesTo_8]
    by_cases c : p k = k
    · rw [if_pos c, c] at ih
      rw [c] at hpi
      simp (disch := omega) only [↓reduceIte, ic_t, ic_f, not_true_eq_false, not_false_eq_true, ↓lt_v, rdR, rdE, rdS, leT, leTc, leTd, leF, leFc, leFd, ltT, ltTc, ltTd, ltF, ltFc, ltFd, eqT, eqTc, eqTd, eqF, eqFc, eqFd, m1T, m1F, m1T', m1F', inb_nI, ix_nI, inb_c, ix_c, nI_1, nI_pred, nI_m1, add_nIc, add_cnI, bd_v, reduceCtorEq, eqFcc, m1e0, m1e1, m1l0, m1g0, m2l0, m2g0, Int32.reduceLT, Int32.reduceLE, Int32.reduceAdd, Int32.reduceSub, Int32.reduceMul, eq_self, Bool.false_eq_true, t3, ln189, t1, hpi, e_X10_changesTo_50, f0]
      exact ih
    · rw [if_neg c] at ih
      simp (disch := omega) only [↓reduceIte, ic_t, ic_f, not_true_eq_false, not_false_eq_true, ↓lt_v, rdR, rdE, rdS, leT, leTc, leTd, leF, leFc, leFd, ltT, ltTc, ltTd, ltF, ltFc, ltFd, eqT, eqTc, eqTd, eqF, eqFc, eqFd, m1T, m1F, m1T', m1F', inb_nI, ix_nI, inb_c, ix_c, nI_1, nI_pred, nI_m1, add_nIc, add_cnI, bd_v, reduceCtorEq, eqFcc, m1e0, m1e1, m1l0, m1g0, m2l0, m2g0, Int32.reduceLT, Int32.reduceLE, Int32.reduceAdd, Int32.reduceSub, Int32.reduceMul, eq_self, Bool.false_eq_true, t3, ln189, t1, hpi, e_X10_changesTo_50, f1]
      exact ih
  · intro fu x hx
    obtain ⟨w1, w2⟩ := hx
    have t3 : x.1 169 3 = nI n := by rw [w2.2.1 3 (fun q => q)]; exact h3
    have hm : sm n (fun k => if p k = k then 0 else 1) ≤ n := sm_le n (fun i _ => by show (if p i = i then 0 else 1) ≤ 1; split <;> omega)
    have em : sm n (fun k => if p k = k then 0 else 1) = mvd n p := rfl
    rw [em] at hm ⊢
    rw [e_X10_changesTo_8]
    simp (disch := omega) only [↓reduceIte, ic_t, ic_f, not_true_eq_false, not_false_eq_true, ↓lt_v, rdR, rdE, rdS, leT, leTc, leTd, leF, leFc, leFd, ltT, ltTc, ltTd, ltF, ltFc, ltFd, eqT, eqTc, eqTd, eqF, eqFc, eqFd, m1T, m1F, m1T', m1F', inb_nI, ix_nI, inb_c, ix_c, nI_1, nI_pred, nI_m1, add_nIc, add_cnI, bd_v, reduceCtorEq, eqFcc, m1e0, m1e1, m1l0, m1g0, m2l0, m2g0, Int32.reduceLT, Int32.reduceLE, Int32.reduceAdd, Int32.reduceSub, Int32.reduceMul, eq_self, Bool.false_eq_true, t3]
    have hFU2 : 2000 < FU := FU_big
    have go : ∀ k, k ≤ n → fX10_changesTo_64 FU (nI (mvd n p)) 1 0 x = fX10_changesTo_64 (FU - k) (nI (mvd n p)) (bI (allB k (fun k => decide (p (p k) = k)))) (nI k) x := by
      intro k
      induction k with
      | zero => intro _; rfl
      | succ k ih =>
        intro hk
        have q1 := w1 k (by omega)
        have q2 := w1 (p k) (pl k (by omega))
        have q3 := pl k (by omega)
        have q4 := pl (p k) q3
        have eA : allB (k + 1) (fun k => decide (p (p k) = k)) = (allB k (fun k => decide (p (p k) = k)) && decide (p (p k) = k)) := rfl
        have b0 : bI false = 0 := rfl
        have b1 : bI true = 1 := rfl
        rw [ih (by omega), show FU - k = (FU - (k + 1)) + 1 by omega, e_X10_changesTo_64, eA]
        cases allB k (fun k => decide (p (p k) = k))
        · simp (disch := omega) only [↓reduceIte, ic_t, ic_f, not_true_eq_false, not_false_eq_true, ↓lt_v, leT, leTc, leTd, leF, leFc, leFd, ltT, ltTc, ltTd, ltF, ltFc, ltFd, eqT, eqTc, eqTd, eqF, eqFc, eqFd, m1T, m1F, m1T', m1F', inb_nI, ix_nI, inb_c, ix_c, nI_1, nI_pred, nI_m1, add_nIc, add_cnI, bd_v, reduceCtorEq, eqFcc, m1e0, m1e1, m1l0, m1g0, m2l0, m2g0, Int32.reduceLT, Int32.reduceLE, Int32.reduceAdd, Int32.reduceSub, Int32.reduceMul, eq_self, Bool.false_eq_true, t3, b0, Bool.false_and]
        · by_cases c : p (p k) = k
          · rw [decide_eq_true c]
            simp (disch := omega) only [↓reduceIte, ic_t, ic_f, not_true_eq_false, not_false_eq_true, ↓lt_v, leT, leTc, leTd, leF, leFc, leFd, ltT, ltTc, ltTd, ltF, ltFc, ltFd, eqT, eqTc, eqTd, eqF, eqFc, eqFd, m1T, m1F, m1T', m1F', inb_nI, ix_nI, inb_c, ix_c, nI_1, nI_pred, nI_m1, add_nIc, add_cnI, bd_v, reduceCtorEq, eqFcc, m1e0, m1e1, m1l0, m1g0, m2l0, m2g0, Int32.reduceLT, Int32.reduceLE, Int32.reduceAdd, Int32.reduceSub, Int32.reduceMul, eq_self, Bool.false_eq_true, t3, b1, q1, q2, Bool.and_self]
          · rw [decide_eq_false c]
            simp (disch := omega) only [↓reduceIte, ic_t, ic_f, not_true_eq_false, not_false_eq_true, ↓lt_v, leT, leTc, leTd, leF, leFc, leFd, ltT, ltTc, ltTd, ltF, ltFc, ltFd, eqT, eqTc, eqTd, eqF, eqFc, eqFd, m1T, m1F, m1T', m1F', inb_nI, ix_nI, inb_c, ix_c, nI_1, nI_pred, nI_m1, add_nIc, add_cnI, bd_v, reduceCtorEq, eqFcc, m1e0, m1e1, m1l0, m1g0, m2l0, m2g0, Int32.reduceLT, Int32.reduceLE, Int32.reduceAdd, Int32.reduceSub, Int32.reduceMul, eq_self, Bool.false_eq_true, t3, b0, b1, q1, q2, Bool.and_false]
    rw [go n (Nat.le_refl _), show FU - n = (FU - (n + 1)) + 1 by omega, e_X10_changesTo_64]
    have hl := r_isLawful (s := x) (o := p) hn ln193 t3 (fun k hk => ⟨w1 k hk, pl k hk⟩)
    have b0 : bI false = 0 := rfl
    have b1 : bI true = 1 := rfl
    cases cA : allB n (fun k => decide (p (p k) = k))
    · rw [cA, Bool.false_and] at lw
      rw [lw]
      simp (disch := omega) only [↓reduceIte, ic_t, ic_f, not_true_eq_false, not_false_eq_true, ↓lt_v, rdR, rdE, rdS, leT, leTc, leTd, leF, leFc, leFd, ltT, ltTc, ltTd, ltF, ltFc, ltFd, eqT, eqTc, eqTd, eqF, eqFc, eqFd, m1T, m1F, m1T', m1F', inb_nI, ix_nI, inb_c, ix_c, nI_1, nI_pred, nI_m1, add_nIc, add_cnI, bd_v, reduceCtorEq, eqFcc, m1e0, m1e1, m1l0, m1g0, m2l0, m2g0, Int32.reduceLT, Int32.reduceLE, Int32.reduceAdd, Int32.reduceSub, Int32.reduceMul, eq_self, Bool.false_eq_true, t3, b0]
      exact ok_some ⟨rfl, w2⟩
    · rw [cA, Bool.true_and] at lw
      simp (disch := omega) only [↓reduceIte, ic_t, ic_f, not_true_eq_false, not_false_eq_true, ↓lt_v, rdR, rdE, rdS, leT, leTc, leTd, leF, leFc, leFd, ltT, ltTc, ltTd, ltF, ltFc, ltFd, eqT, eqTc, eqTd, eqF, eqFc, eqFd, m1T, m1F, m1T', m1F', inb_nI, ix_nI, inb_c, ix_c, nI_1, nI_pred, nI_m1, add_nIc, add_cnI, bd_v, reduceCtorEq, eqFcc, m1e0, m1e1, m1l0, m1g0, m2l0, m2g0, Int32.reduceLT, Int32.reduceLE, Int32.reduceAdd, Int32.reduceSub, Int32.reduceMul, eq_self, Bool.false_eq_true, t3, b1, hl]
      cases cB : fulB n p
      · rw [cB] at lw
        rw [lw]
        simp (disch := omega) only [↓reduceIte, ic_t, ic_f, not_true_eq_false, not_false_eq_true, ↓lt_v, rdR, rdE, rdS, leT, leTc, leTd, leF, leFc, leFd, ltT, ltTc, ltTd, ltF, ltFc, ltFd, eqT, eqTc, eqTd, eqF, eqFc, eqFd, m1T, m1F, m1T', m1F', inb_nI, ix_nI, inb_c, ix_c, nI_1, nI_pred, nI_m1, add_nIc, add_cnI, bd_v, reduceCtorEq, eqFcc, m1e0, m1e1, m1l0, m1g0, m2l0, m2g0, Int32.reduceLT, Int32.reduceLE, Int32.reduceAdd, Int32.reduceSub, Int32.reduceMul, eq_self, Bool.false_eq_true, b0]
        exact ok_some ⟨rfl, w2⟩
      · rw [cB] at lw
        have hd : nI (mvd n p) / 2 = nI (mvd n p / 2) := pk_div (d := 2) (by omega) (by omega) (by omega)
        rw [lw]
        simp (disch := omega) only [↓reduceIte, ic_t, ic_f, not_true_eq_false, not_false_eq_true, ↓lt_v, rdR, rdE, rdS, leT, leTc, leTd, leF, leFc, leFd, ltT, ltTc, ltTd, ltF, ltFc, ltFd, eqT, eqTc, eqTd, eqF, eqFc, eqFd, m1T, m1F, m1T', m1F', inb_nI, ix_nI, inb_c, ix_c, nI_1, nI_pred, nI_m1, add_nIc, add_cnI, bd_v, reduceCtorEq, eqFcc, m1e0, m1e1, m1l0, m1g0, m2l0, m2g0, Int32.reduceLT, Int32.reduceLE, Int32.reduceAdd, Int32.reduceSub, Int32.reduceMul, eq_self, Bool.false_eq_true, b1]
        refine ok_some ⟨?_, w2⟩
        show nI (mvd n p) / 2 = nI (prs n h)
        rw [hd, mv lw, law_prs hn hh lw]
