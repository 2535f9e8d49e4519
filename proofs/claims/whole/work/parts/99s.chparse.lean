/-! PURE: chart: both read the text -/
def PCh (a : Nat) : Prop := a = 190 ∨ a = 196
def SCh (i : Nat) : Prop := i = 9
/-- the chart's orders as the reference keeps them -/
def ChR (n J : Nat) (f : Nat → Nat) (s : Mem) : Prop := ∀ i, i < J → ∀ k, k < n → s.1 196 (6 * i + k) = nI (f (i * (n + 1) + k) - 48)
theorem r_ch40 {s : Mem} {n j p : Nat} {f : Nat → Nat} {k16 : Int32 → Int32 → Mem → Option (Int32 × Mem)} {Q : Int32 × Mem → Prop} (hn : n ≤ 6) (hp : p = j * (n + 1)) (hj : n = 0 ∨ j ≤ 40) (hj2 : j ≤ 80) (h3 : s.1 169 3 = nI n) (hr : ∀ i, i < n → s.1 190 i = nI (f (p + i) - 48)) (hC : ChR n j f s)
    (kk : ∀ s', ChR n (j + 1) f s' → FrR PCh (fun _ => False) s s' → Ok ((fX10_takes 59 s').bind fun q17 => k16 (nI (j + 1)) q17.1 q17.2) Q) : Ok (fX10_chart_40 k16 FU (nI j) 0 s) Q := by
  have hFU : 2000 < FU := FU_big
  generalize FU = fu0 at hFU ⊢
  refine ok_loop n (fun fu k x => fX10_chart_40 k16 fu (nI j) (nI k) x) (fun k x => (∀ i, i < k → x.1 196 (6 * j + i) = nI (f (p + i) - 48)) ∧ ChR n j f x ∧ FrR (fun a => a = 196) (fun _ => False) s x) ?_ ?_ fu0 0 s (by omega) (by omega) ⟨fun i hi => absurd hi (Nat.not_lt_zero _), hC, frR_rfl⟩
  · intro fu k x hk hx ih
    obtain ⟨w1, w2, w3⟩ := hx
    have t3 : x.1 169 3 = nI n := by rw [w3.2.1 3 (fun q => q)]; exact h3
    have hs : x.1 190 k = nI (f (p + k) - 48) := by rw [w3.1 190 (by omega) (by omega)]; exact hr k hk
    have e6 : 6 * nI j + nI k = nI (6 * j + k) := by rw [show (6 : Int32) = nI 6 from rfl, pk_mul, nI_add]
    rw [e_X10_chart_40]
    simp (disch := omega) only [↓reduceIte, ic_t, ic_f, not_true_eq_false, not_false_eq_true, ↓lt_v, rdR, rdE, rdS, leT, leTc, leTd, leF, leFc, leFd, ltT, ltTc, ltTd, ltF, ltFc, ltFd, eqT, eqTc, eqTd, eqF, eqFc, eqFd, m1T, m1F, m1T', m1F', inb_nI, ix_nI, inb_c, ix_c, nI_1, nI_pred, nI_m1, add_nIc, add_cnI, bd_v, reduceCtorEq, eqFcc, m1e0, m1e1, m1l0, m1g0, m2l0, m2g0, Int32.reduceLT, Int32.reduceLE, Int32.reduceAdd, Int32.reduceSub, Int32.reduceMul, eq_self, Bool.false_eq_true, t3, e6, hs]
    refine ih _ ⟨fun i hi => ?_, fun i hi k' hk' => ?_, frR_trans w3 (frR_sI (by omega) (by omega))⟩
    · by_cases e : i = k
      · subst e; simp (disch := omega) only [↓reduceIte, ic_t, ic_f, not_true_eq_false, not_false_eq_true, ↓lt_v, rdR, rdE, rdS, leT, leTc, leTd, leF, leFc, leFd, ltT, ltTc, ltTd, ltF, ltFc, ltFd, eqT, eqTc, eqTd, eqF, eqFc, eqFd, m1T, m1F, m1T', m1F', inb_nI, ix_nI, inb_c, ix_c, nI_1, nI_pred, nI_m1, add_nIc, add_cnI, bd_v, reduceCtorEq, eqFcc, m1e0, m1e1, m1l0, m1g0, m2l0, m2g0, Int32.reduceLT, Int32.reduceLE, Int32.reduceAdd, Int32.reduceSub, Int32.reduceMul, eq_self, Bool.false_eq_true]
      · simp (disch := omega) only [↓reduceIte, ic_t, ic_f, not_true_eq_false, not_false_eq_true, ↓lt_v, rdR, rdE, rdS, leT, leTc, leTd, leF, leFc, leFd, ltT, ltTc, ltTd, ltF, ltFc, ltFd, eqT, eqTc, eqTd, eqF, eqFc, eqFd, m1T, m1F, m1T', m1F', inb_nI, ix_nI, inb_c, ix_c, nI_1, nI_pred, nI_m1, add_nIc, add_cnI, bd_v, reduceCtorEq, eqFcc, m1e0, m1e1, m1l0, m1g0, m2l0, m2g0, Int32.reduceLT, Int32.reduceLE, Int32.reduceAdd, Int32.reduceSub, Int32.reduceMul, eq_self, Bool.false_eq_true]; exact w1 i (by omega)
    · simp (disch := omega) only [↓reduceIte, ic_t, ic_f, not_true_eq_false, not_false_eq_true, ↓lt_v, rdR, rdE, rdS, leT, leTc, leTd, leF, leFc, leFd, ltT, ltTc, ltTd, ltF, ltFc, ltFd, eqT, eqTc, eqTd, eqF, eqFc, eqFd, m1T, m1F, m1T', m1F', inb_nI, ix_nI, inb_c, ix_c, nI_1, nI_pred, nI_m1, add_nIc, add_cnI, bd_v, reduceCtorEq, eqFcc, m1e0, m1e1, m1l0, m1g0, m2l0, m2g0, Int32.reduceLT, Int32.reduceLE, Int32.reduceAdd, Int32.reduceSub, Int32.reduceMul, eq_self, Bool.false_eq_true]; exact w2 i hi k' hk'
  · intro fu x hx
    obtain ⟨w1, w2, w3⟩ := hx
    have t3 : x.1 169 3 = nI n := by rw [w3.2.1 3 (fun q => q)]; exact h3
    rw [e_X10_chart_40]
    simp (disch := omega) only [↓reduceIte, ic_t, ic_f, not_true_eq_false, not_false_eq_true, ↓lt_v, rdR, rdE, rdS, leT, leTc, leTd, leF, leFc, leFd, ltT, ltTc, ltTd, ltF, ltFc, ltFd, eqT, eqTc, eqTd, eqF, eqFc, eqFd, m1T, m1F, m1T', m1F', inb_nI, ix_nI, inb_c, ix_c, nI_1, nI_pred, nI_m1, add_nIc, add_cnI, bd_v, reduceCtorEq, eqFcc, m1e0, m1e1, m1l0, m1g0, m2l0, m2g0, Int32.reduceLT, Int32.reduceLE, Int32.reduceAdd, Int32.reduceSub, Int32.reduceMul, eq_self, Bool.false_eq_true, t3]
    refine kk x (fun i hi k hk => ?_) (frR_sub w3 (fun a _ ha => by unfold PCh; omega) (fun i hi => hi))
    by_cases e : i = j
    · subst e
      rw [w1 k hk, hp]
    · exact w2 i (by omega) k hk
def ChP (L n : Nat) (f : Nat → Nat) (d j p : Nat) : Prop := ∃ (J pos : Nat) (ok : Bool), (ok = true → j < J ∧ (∀ i, j ≤ i → i < J → ∀ a, a < n → oG L n f (i * (n + 1)) a) ∧ J * (n + 1) = L + 1) ∧ pos ≤ 100 ∧
    (∀ (M : Mem) (fu : Nat), d + 2 ≤ fu → TxC L f M → M.1 6 0 = nI n → Ok (fX9_chartFault_4 fu (nI p) (nI j) M) (fun q => q.1 = (if ok = true then -1 else nI pos) ∧ Fr (fun a => a = 142) M q.2)) ∧
    (∀ (s : Mem) (fu : Nat) (Q : Int32 × Mem → Prop), d + 3 ≤ fu → AtR p L f s → s.1 169 3 = nI n → ChR n j f s → (ok = false → ∀ s', FrR PCh SCh s s' → Ok (some (-1 - nI pos, s')) Q) → (ok = true → ∀ s', ChR n J f s' → FrR PCh SCh s s' → Ok ((fX10_laysStanding 171 189 s').bind fun q7 => fX10_chart_122 FU (nI J) 0 0 0 q7) Q) → Ok (fX10_chart_16 fu (nI j) 1 s) Q)
theorem ch_step {L n : Nat} {f : Nat → Nat} (hn : n ≤ 6) (hL : L ≤ 80) (d : Nat) (ih : ∀ j p, p = j * (n + 1) → p ≤ L → L - p < d → ChP L n f (d - 1) j p) (j p : Nat) (hp : p = j * (n + 1)) (hpL : p ≤ L) (hd : L - p ≤ d) : ChP L n f d j p := by
  have hjp : j ≤ p := by rw [hp]; exact Nat.le_mul_of_pos_right j (by omega)
  have hj40 : n = 0 ∨ j ≤ 40 := by
    by_cases c : n = 0
    · exact Or.inl c
    · have : j * 2 ≤ j * (n + 1) := Nat.mul_le_mul_left j (by omega)
      omega
  have hps : p + n + 1 = (j + 1) * (n + 1) := by rw [Nat.succ_mul, ← hp]; omega
  obtain ⟨K, hK, hall, hend⟩ := or_ex (L := L) (n := n) (p := p) (f := f)
  by_cases cK : K = n
  · have hpn : p + n ≤ L := by
      by_cases c : n = 0
      · omega
      · have := (hall (n - 1) (by omega)).1; omega
    have rd : ∀ (s : Mem) (fu : Nat) (Q : Int32 × Mem → Prop), AtR p L f s → s.1 169 3 = nI n → ChR n j f s → (∀ s', ChR n (j + 1) f s' → AtR (p + n) L f s' → s'.1 169 3 = nI n → FrR PCh SCh s s' → Ok (fX10_chart_16 fu (nI (j + 1)) (bI (decide (p + n < L ∧ f (p + n) = 59))) (sI s' 169 9 (nI (p + n + (if p + n < L ∧ f (p + n) = 59 then 1 else 0))))) Q) → Ok (fX10_chart_16 (fu + 1) (nI j) 1 s) Q := by
      intro s fu Q hA h3 hC kk
      rw [e_X10_chart_16]
      simp (disch := omega) only [↓reduceIte, ic_t, ic_f, not_true_eq_false, not_false_eq_true, ↓lt_v, rdR, rdE, rdS, leT, leTc, leTd, leF, leFc, leFd, ltT, ltTc, ltTd, ltF, ltFc, ltFd, eqT, eqTc, eqTd, eqF, eqFc, eqFd, m1T, m1F, m1T', m1F', inb_nI, ix_nI, inb_c, ix_c, nI_1, nI_pred, nI_m1, add_nIc, add_cnI, bd_v, reduceCtorEq, eqFcc, m1e0, m1e1, m1l0, m1g0, m2l0, m2g0, Int32.reduceLT, Int32.reduceLE, Int32.reduceAdd, Int32.reduceSub, Int32.reduceMul, eq_self, Bool.false_eq_true]
      refine ok_call (r_readsOrder (p := p) (a1 := 190) hn (by rw [ln190]; omega) (by rw [ln190]; omega) (by omega) (by omega) hA h3 hK hall hend) (fun q g => ?_)
      obtain ⟨g1, g2, g3, g4⟩ := g
      rw [if_pos cK] at g1
      rw [g1]
      simp (disch := omega) only [↓reduceIte, ic_t, ic_f, not_true_eq_false, not_false_eq_true, ↓lt_v, rdR, rdE, rdS, leT, leTc, leTd, leF, leFc, leFd, ltT, ltTc, ltTd, ltF, ltFc, ltFd, eqT, eqTc, eqTd, eqF, eqFc, eqFd, m1T, m1F, m1T', m1F', inb_nI, ix_nI, inb_c, ix_c, nI_1, nI_pred, nI_m1, add_nIc, add_cnI, bd_v, reduceCtorEq, eqFcc, m1e0, m1e1, m1l0, m1g0, m2l0, m2g0, Int32.reduceLT, Int32.reduceLE, Int32.reduceAdd, Int32.reduceSub, Int32.reduceMul, eq_self, Bool.false_eq_true]
      refine r_ch40 hn hp hj40 (by omega) (by rw [g4.2.1 3 (by omega)]; exact h3) (fun i hi => g2 i (by omega)) (fun i hi k hk => by rw [g4.1 196 (by omega) (by omega)]; exact hC i hi k hk) (fun s' w1 w2 => ?_)
      rw [cK] at g3
      have hA' : AtR (p + n) L f s' := atR_fr g3 (w2.2.1 9 (fun q => q)) (w2.2.1 10 (fun q => q)) (w2.1 173 (by omega) (by unfold PCh; omega))
      have ht := r_takes (c := 59) hA' (by omega)
      rw [show (59 : Int32) = nI 59 from rfl, ht]
      simp (disch := omega) only [↓reduceIte, ic_t, ic_f, not_true_eq_false, not_false_eq_true, ↓lt_v, rdR, rdE, rdS, leT, leTc, leTd, leF, leFc, leFd, ltT, ltTc, ltTd, ltF, ltFc, ltFd, eqT, eqTc, eqTd, eqF, eqFc, eqFd, m1T, m1F, m1T', m1F', inb_nI, ix_nI, inb_c, ix_c, nI_1, nI_pred, nI_m1, add_nIc, add_cnI, bd_v, reduceCtorEq, eqFcc, m1e0, m1e1, m1l0, m1g0, m2l0, m2g0, Int32.reduceLT, Int32.reduceLE, Int32.reduceAdd, Int32.reduceSub, Int32.reduceMul, eq_self, Bool.false_eq_true]
      exact kk s' w1 hA' (by rw [w2.2.1 3 (fun q => q), g4.2.1 3 (by omega)]; exact h3) (frR_trans (frR_sub g4 (fun a _ ha => by unfold PCh; omega) (fun i hi => by unfold SCh; omega)) (frR_sub w2 (fun a _ ha => ha) (fun i hi => hi.elim)))
    have rc : ∀ (M : Mem) (fu : Nat) (Q : Int32 × Mem → Prop), TxC L f M → M.1 6 0 = nI n → (∀ M', TxC L f M' → M'.1 6 0 = nI n → Fr (fun a => a = 142) M M' → Ok (ic (nI (p + n) < M'.1 2 1) ((ic (inb (nI (p + n)) 80) (ic ((M'.1 3 (ix (nI (p + n)))) = 59) ((lt (nI (p + n) + 1) fun y10 => lt (nI j + 1) fun y12 => (fX9_chartFault_4 fu) y10 y12 M')) ((some (nI (p + n), M')))) (none))) ((some ((-1), M')))) Q) → Ok (fX9_chartFault_4 (fu + 1) (nI p) (nI j) M) Q := by
      intro M fu Q hT h6 kk
      rw [e_X9_chartFault_4]
      simp (disch := omega) only [↓reduceIte, ic_t, ic_f, not_true_eq_false, not_false_eq_true, ↓lt_v, rdR, rdE, rdS, leT, leTc, leTd, leF, leFc, leFd, ltT, ltTc, ltTd, ltF, ltFc, ltFd, eqT, eqTc, eqTd, eqF, eqFc, eqFd, m1T, m1F, m1T', m1F', inb_nI, ix_nI, inb_c, ix_c, nI_1, nI_pred, nI_m1, add_nIc, add_cnI, bd_v, reduceCtorEq, eqFcc, m1e0, m1e1, m1l0, m1g0, m2l0, m2g0, Int32.reduceLT, Int32.reduceLE, Int32.reduceAdd, Int32.reduceSub, Int32.reduceMul, eq_self, Bool.false_eq_true]
      refine ok_call (c_readOrder (p := p) hn (by omega) hT h6 hK hall hend) (fun q g => ?_)
      obtain ⟨g1, g2, g3⟩ := g
      rw [if_pos cK] at g1
      have t6 : q.2.1 6 0 = nI n := by rw [g3.1 6 (by omega)]; exact h6
      rw [g1, t6, nI_add]
      simp (disch := omega) only [↓reduceIte, ic_t, ic_f, not_true_eq_false, not_false_eq_true, ↓lt_v, rdR, rdE, rdS, leT, leTc, leTd, leF, leFc, leFd, ltT, ltTc, ltTd, ltF, ltFc, ltFd, eqT, eqTc, eqTd, eqF, eqFc, eqFd, m1T, m1F, m1T', m1F', inb_nI, ix_nI, inb_c, ix_c, nI_1, nI_pred, nI_m1, add_nIc, add_cnI, bd_v, reduceCtorEq, eqFcc, m1e0, m1e1, m1l0, m1g0, m2l0, m2g0, Int32.reduceLT, Int32.reduceLE, Int32.reduceAdd, Int32.reduceSub, Int32.reduceMul, eq_self, Bool.false_eq_true]
      have := kk q.2 (txC_fr hT (g3.1 2 (by omega)) (g3.1 3 (by omega))) t6 g3
      simp (disch := omega) only [↓reduceIte, ic_t, ic_f, not_true_eq_false, not_false_eq_true, ↓lt_v, rdR, rdE, rdS, leT, leTc, leTd, leF, leFc, leFd, ltT, ltTc, ltTd, ltF, ltFc, ltFd, eqT, eqTc, eqTd, eqF, eqFc, eqFd, m1T, m1F, m1T', m1F', inb_nI, ix_nI, inb_c, ix_c, nI_1, nI_pred, nI_m1, add_nIc, add_cnI, bd_v, reduceCtorEq, eqFcc, m1e0, m1e1, m1l0, m1g0, m2l0, m2g0, Int32.reduceLT, Int32.reduceLE, Int32.reduceAdd, Int32.reduceSub, Int32.reduceMul, eq_self, Bool.false_eq_true] at this
      exact this
    by_cases c1 : p + n < L
    · by_cases c2 : f (p + n) = 59
      · obtain ⟨J, pos, ok, h1, h2, h3, h4⟩ := ih (j + 1) (p + n + 1) hps (by omega) (by omega)
        refine ⟨J, pos, ok, fun e => ?_, h2, fun M fu hfu hT h6 => ?_, fun s fu Q hfu hA h3' hC k1 k2 => ?_⟩
        · obtain ⟨a1, a2, a3⟩ := h1 e
          refine ⟨by omega, fun i hi hi2 a ha => ?_, a3⟩
          by_cases e2 : i = j
          · subst e2
            rw [← hp]
            exact hall a (by omega)
          · exact a2 i (by omega) hi2 a ha
        · obtain ⟨fu, rfl⟩ : ∃ m, fu = m + 1 := ⟨fu - 1, by omega⟩
          refine rc M fu _ hT h6 (fun M' hT' h6' hf => ?_)
          obtain ⟨t1, t2⟩ := hT'.2.2 (p + n) c1
          have t3 := hT'.2.1
          rw [c2] at t2
          simp (disch := omega) only [↓reduceIte, ic_t, ic_f, not_true_eq_false, not_false_eq_true, ↓lt_v, rdR, rdE, rdS, leT, leTc, leTd, leF, leFc, leFd, ltT, ltTc, ltTd, ltF, ltFc, ltFd, eqT, eqTc, eqTd, eqF, eqFc, eqFd, m1T, m1F, m1T', m1F', inb_nI, ix_nI, inb_c, ix_c, nI_1, nI_pred, nI_m1, add_nIc, add_cnI, bd_v, reduceCtorEq, eqFcc, m1e0, m1e1, m1l0, m1g0, m2l0, m2g0, Int32.reduceLT, Int32.reduceLE, Int32.reduceAdd, Int32.reduceSub, Int32.reduceMul, eq_self, Bool.false_eq_true, t3, t2]
          exact ok_mono (h3 M' fu (by omega) hT' h6') (fun q g => ⟨g.1, fr_trans hf g.2⟩)
        · obtain ⟨fu, rfl⟩ : ∃ m, fu = m + 1 := ⟨fu - 1, by omega⟩
          refine rd s fu Q hA h3' hC (fun s' w1 w2 w3 w4 => ?_)
          rw [decide_eq_true ⟨c1, c2⟩, if_pos ⟨c1, c2⟩]
          refine h4 _ fu Q (by omega) (atR_set w2 (by omega)) (by simp (disch := omega) only [↓reduceIte, ic_t, ic_f, not_true_eq_false, not_false_eq_true, ↓lt_v, rdR, rdE, rdS, leT, leTc, leTd, leF, leFc, leFd, ltT, ltTc, ltTd, ltF, ltFc, ltFd, eqT, eqTc, eqTd, eqF, eqFc, eqFd, m1T, m1F, m1T', m1F', inb_nI, ix_nI, inb_c, ix_c, nI_1, nI_pred, nI_m1, add_nIc, add_cnI, bd_v, reduceCtorEq, eqFcc, m1e0, m1e1, m1l0, m1g0, m2l0, m2g0, Int32.reduceLT, Int32.reduceLE, Int32.reduceAdd, Int32.reduceSub, Int32.reduceMul, eq_self, Bool.false_eq_true]; exact w3) (fun i hi k hk => by simp (disch := omega) only [↓reduceIte, ic_t, ic_f, not_true_eq_false, not_false_eq_true, ↓lt_v, rdR, rdE, rdS, leT, leTc, leTd, leF, leFc, leFd, ltT, ltTc, ltTd, ltF, ltFc, ltFd, eqT, eqTc, eqTd, eqF, eqFc, eqFd, m1T, m1F, m1T', m1F', inb_nI, ix_nI, inb_c, ix_c, nI_1, nI_pred, nI_m1, add_nIc, add_cnI, bd_v, reduceCtorEq, eqFcc, m1e0, m1e1, m1l0, m1g0, m2l0, m2g0, Int32.reduceLT, Int32.reduceLE, Int32.reduceAdd, Int32.reduceSub, Int32.reduceMul, eq_self, Bool.false_eq_true]; exact w1 i hi k hk) (fun e s2 m => k1 e s2 ?_) (fun e s2 m1 m2 => k2 e s2 m1 ?_)
          · exact frR_trans (frR_trans w4 (frR_sI (by omega) (by unfold SCh; omega))) m
          · exact frR_trans (frR_trans w4 (frR_sI (by omega) (by unfold SCh; omega))) m2
      · refine ⟨0, p + n, false, (fun e => by cases e), by omega, fun M fu hfu hT h6 => ?_, fun s fu Q hfu hA h3' hC k1 k2 => ?_⟩
        · obtain ⟨fu, rfl⟩ : ∃ m, fu = m + 1 := ⟨fu - 1, by omega⟩
          refine rc M fu _ hT h6 (fun M' hT' h6' hf => ?_)
          obtain ⟨t1, t2⟩ := hT'.2.2 (p + n) c1
          have t3 := hT'.2.1
          simp (disch := omega) only [↓reduceIte, ic_t, ic_f, not_true_eq_false, not_false_eq_true, ↓lt_v, rdR, rdE, rdS, leT, leTc, leTd, leF, leFc, leFd, ltT, ltTc, ltTd, ltF, ltFc, ltFd, eqT, eqTc, eqTd, eqF, eqFc, eqFd, m1T, m1F, m1T', m1F', inb_nI, ix_nI, inb_c, ix_c, nI_1, nI_pred, nI_m1, add_nIc, add_cnI, bd_v, reduceCtorEq, eqFcc, m1e0, m1e1, m1l0, m1g0, m2l0, m2g0, Int32.reduceLT, Int32.reduceLE, Int32.reduceAdd, Int32.reduceSub, Int32.reduceMul, eq_self, Bool.false_eq_true, t3, t2]
          exact ok_some ⟨rfl, hf⟩
        · obtain ⟨fu, rfl⟩ : ∃ m, fu = m + 1 + 1 := ⟨fu - 2, by omega⟩
          refine rd s (fu + 1) Q hA h3' hC (fun s' w1 w2 w3 w4 => ?_)
          rw [decide_eq_false (fun q => c2 q.2), if_neg (fun q => c2 q.2)]
          have hA2 := atR_set w2 (b := p + n + 0) (by omega)
          have t9 := hA2.1
          have t10 := w2.2.1
          have b0 : bI false = 0 := rfl
          rw [e_X10_chart_16, b0]
          simp (disch := omega) only [↓reduceIte, ic_t, ic_f, not_true_eq_false, not_false_eq_true, ↓lt_v, rdR, rdE, rdS, leT, leTc, leTd, leF, leFc, leFd, ltT, ltTc, ltTd, ltF, ltFc, ltFd, eqT, eqTc, eqTd, eqF, eqFc, eqFd, m1T, m1F, m1T', m1F', inb_nI, ix_nI, inb_c, ix_c, nI_1, nI_pred, nI_m1, add_nIc, add_cnI, bd_v, reduceCtorEq, eqFcc, m1e0, m1e1, m1l0, m1g0, m2l0, m2g0, Int32.reduceLT, Int32.reduceLE, Int32.reduceAdd, Int32.reduceSub, Int32.reduceMul, eq_self, Bool.false_eq_true, t9, t10]
          exact k1 rfl _ (frR_trans w4 (frR_sI (by omega) (by unfold SCh; omega)))
    · refine ⟨j + 1, 0, true, fun _ => ⟨by omega, fun i hi hi2 a ha => ?_, by omega⟩, by omega, fun M fu hfu hT h6 => ?_, fun s fu Q hfu hA h3' hC k1 k2 => ?_⟩
      · have : i = j := by omega
        subst this
        rw [← hp]
        exact hall a (by omega)
      · obtain ⟨fu, rfl⟩ : ∃ m, fu = m + 1 := ⟨fu - 1, by omega⟩
        refine rc M fu _ hT h6 (fun M' hT' h6' hf => ?_)
        have t3 := hT'.2.1
        simp (disch := omega) only [↓reduceIte, ic_t, ic_f, not_true_eq_false, not_false_eq_true, ↓lt_v, rdR, rdE, rdS, leT, leTc, leTd, leF, leFc, leFd, ltT, ltTc, ltTd, ltF, ltFc, ltFd, eqT, eqTc, eqTd, eqF, eqFc, eqFd, m1T, m1F, m1T', m1F', inb_nI, ix_nI, inb_c, ix_c, nI_1, nI_pred, nI_m1, add_nIc, add_cnI, bd_v, reduceCtorEq, eqFcc, m1e0, m1e1, m1l0, m1g0, m2l0, m2g0, Int32.reduceLT, Int32.reduceLE, Int32.reduceAdd, Int32.reduceSub, Int32.reduceMul, eq_self, Bool.false_eq_true, t3]
        exact ok_some ⟨rfl, hf⟩
      · obtain ⟨fu, rfl⟩ : ∃ m, fu = m + 1 + 1 := ⟨fu - 2, by omega⟩
        refine rd s (fu + 1) Q hA h3' hC (fun s' w1 w2 w3 w4 => ?_)
        rw [decide_eq_false (fun q => c1 q.1), if_neg (fun q => c1 q.1)]
        have hA2 := atR_set w2 (b := p + n + 0) (by omega)
        have t9 := hA2.1
        have t10 := w2.2.1
        have b0 : bI false = 0 := rfl
        rw [e_X10_chart_16, b0]
        simp (disch := omega) only [↓reduceIte, ic_t, ic_f, not_true_eq_false, not_false_eq_true, ↓lt_v, rdR, rdE, rdS, leT, leTc, leTd, leF, leFc, leFd, ltT, ltTc, ltTd, ltF, ltFc, ltFd, eqT, eqTc, eqTd, eqF, eqFc, eqFd, m1T, m1F, m1T', m1F', inb_nI, ix_nI, inb_c, ix_c, nI_1, nI_pred, nI_m1, add_nIc, add_cnI, bd_v, reduceCtorEq, eqFcc, m1e0, m1e1, m1l0, m1g0, m2l0, m2g0, Int32.reduceLT, Int32.reduceLE, Int32.reduceAdd, Int32.reduceSub, Int32.reduceMul, eq_self, Bool.false_eq_true, t9, t10]
        exact k2 rfl (sI s' 169 9 (nI (p + n + 0))) (fun i hi k hk => by simp (disch := omega) only [↓reduceIte, ic_t, ic_f, not_true_eq_false, not_false_eq_true, ↓lt_v, rdR, rdE, rdS, leT, leTc, leTd, leF, leFc, leFd, ltT, ltTc, ltTd, ltF, ltFc, ltFd, eqT, eqTc, eqTd, eqF, eqFc, eqFd, m1T, m1F, m1T', m1F', inb_nI, ix_nI, inb_c, ix_c, nI_1, nI_pred, nI_m1, add_nIc, add_cnI, bd_v, reduceCtorEq, eqFcc, m1e0, m1e1, m1l0, m1g0, m2l0, m2g0, Int32.reduceLT, Int32.reduceLE, Int32.reduceAdd, Int32.reduceSub, Int32.reduceMul, eq_self, Bool.false_eq_true]; exact w1 i hi k hk) (frR_trans w4 (frR_sI (by omega) (by unfold SCh; omega)))
  · refine ⟨0, p + K, false, (fun e => by cases e), by omega, fun M fu hfu hT h6 => ?_, fun s fu Q hfu hA h3' hC k1 k2 => ?_⟩
    · obtain ⟨fu, rfl⟩ : ∃ m, fu = m + 1 := ⟨fu - 1, by omega⟩
      rw [e_X9_chartFault_4]
      simp (disch := omega) only [↓reduceIte, ic_t, ic_f, not_true_eq_false, not_false_eq_true, ↓lt_v, rdR, rdE, rdS, leT, leTc, leTd, leF, leFc, leFd, ltT, ltTc, ltTd, ltF, ltFc, ltFd, eqT, eqTc, eqTd, eqF, eqFc, eqFd, m1T, m1F, m1T', m1F', inb_nI, ix_nI, inb_c, ix_c, nI_1, nI_pred, nI_m1, add_nIc, add_cnI, bd_v, reduceCtorEq, eqFcc, m1e0, m1e1, m1l0, m1g0, m2l0, m2g0, Int32.reduceLT, Int32.reduceLE, Int32.reduceAdd, Int32.reduceSub, Int32.reduceMul, eq_self, Bool.false_eq_true]
      refine ok_call (c_readOrder (p := p) hn (by omega) hT h6 hK hall hend) (fun q g => ?_)
      obtain ⟨g1, g2, g3⟩ := g
      rw [if_neg cK] at g1
      rw [g1]
      simp (disch := omega) only [↓reduceIte, ic_t, ic_f, not_true_eq_false, not_false_eq_true, ↓lt_v, rdR, rdE, rdS, leT, leTc, leTd, leF, leFc, leFd, ltT, ltTc, ltTd, ltF, ltFc, ltFd, eqT, eqTc, eqTd, eqF, eqFc, eqFd, m1T, m1F, m1T', m1F', inb_nI, ix_nI, inb_c, ix_c, nI_1, nI_pred, nI_m1, add_nIc, add_cnI, bd_v, reduceCtorEq, eqFcc, m1e0, m1e1, m1l0, m1g0, m2l0, m2g0, Int32.reduceLT, Int32.reduceLE, Int32.reduceAdd, Int32.reduceSub, Int32.reduceMul, eq_self, Bool.false_eq_true]
      exact ok_some ⟨rfl, g3⟩
    · obtain ⟨fu, rfl⟩ : ∃ m, fu = m + 1 := ⟨fu - 1, by omega⟩
      rw [e_X10_chart_16]
      simp (disch := omega) only [↓reduceIte, ic_t, ic_f, not_true_eq_false, not_false_eq_true, ↓lt_v, rdR, rdE, rdS, leT, leTc, leTd, leF, leFc, leFd, ltT, ltTc, ltTd, ltF, ltFc, ltFd, eqT, eqTc, eqTd, eqF, eqFc, eqFd, m1T, m1F, m1T', m1F', inb_nI, ix_nI, inb_c, ix_c, nI_1, nI_pred, nI_m1, add_nIc, add_cnI, bd_v, reduceCtorEq, eqFcc, m1e0, m1e1, m1l0, m1g0, m2l0, m2g0, Int32.reduceLT, Int32.reduceLE, Int32.reduceAdd, Int32.reduceSub, Int32.reduceMul, eq_self, Bool.false_eq_true]
      refine ok_call (r_readsOrder (p := p) (a1 := 190) hn (by rw [ln190]; omega) (by rw [ln190]; omega) (by omega) (by omega) hA h3' hK hall hend) (fun q g => ?_)
      obtain ⟨g1, g2, g3, g4⟩ := g
      rw [if_neg cK] at g1
      have t9 := g3.1
      rw [g1]
      simp (disch := omega) only [↓reduceIte, ic_t, ic_f, not_true_eq_false, not_false_eq_true, ↓lt_v, rdR, rdE, rdS, leT, leTc, leTd, leF, leFc, leFd, ltT, ltTc, ltTd, ltF, ltFc, ltFd, eqT, eqTc, eqTd, eqF, eqFc, eqFd, m1T, m1F, m1T', m1F', inb_nI, ix_nI, inb_c, ix_c, nI_1, nI_pred, nI_m1, add_nIc, add_cnI, bd_v, reduceCtorEq, eqFcc, m1e0, m1e1, m1l0, m1g0, m2l0, m2g0, Int32.reduceLT, Int32.reduceLE, Int32.reduceAdd, Int32.reduceSub, Int32.reduceMul, eq_self, Bool.false_eq_true, t9]
      exact k1 rfl _ (frR_sub g4 (fun a _ ha => by unfold PCh; omega) (fun i hi => by unfold SCh; omega))
theorem ch_parse {L n : Nat} {f : Nat → Nat} (hn : n ≤ 6) (hL : L ≤ 80) : ∀ d j p, p = j * (n + 1) → p ≤ L → L - p ≤ d → ChP L n f d j p := by
  intro d
  induction d with
  | zero => exact fun j p hp hpL hd => ch_step hn hL 0 (fun j p hp hpL hd => absurd hd (by omega)) j p hp hpL (by omega)
  | succ d ih => exact fun j p hp hpL hd => ch_step hn hL (d + 1) (fun j p hp hpL hd => ih j p hp hpL (by omega)) j p hp hpL hd
