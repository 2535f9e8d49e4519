/-! PURE: reference: laysSoon -/
def RN (n : Nat) (o : Nat → Nat) (t : Nat) : Nat := lh n (fun k => o (un n t k)) n
theorem rn_prm {n : Nat} {o : Nat → Nat} (hn : n ≤ 6) (ho : Prm n o) : Prm (fac n) (RN n o) := by
  refine ⟨fun t _ => lh_fac hn, fun i j hi hj e => ?_⟩
  have pi := (chk1_n hn hi)
  have pj := (chk1_n hn hj)
  have h := lh_inj hn (prm_comp ho pi.1) (prm_comp ho pj.1) e
  have h' : ∀ k, k < n → un n i k = un n j k := fun k hk => ho.2 _ _ (pi.1.1 k hk) (pj.1.1 k hk) (h k hk)
  have := lh_congr h' n (Nat.le_refl _)
  rw [pi.2.1, pj.2.1] at this
  exact this
theorem rn_0 {n : Nat} (hn : n ≤ 6) : (∀ k, k < n → un n 0 k = k) ∧ rqq n 0 = 0 ∧ rp n 0 = 0 := by
  have h : ∀ n, n < 7 → (∀ k, k < n → un n 0 k = k) ∧ rqq n 0 = 0 ∧ rp n 0 = 0 := by decide +kernel
  exact h n (by omega)
def BfR (n : Nat) (o : Nat → Nat) (l : Nat) (s : Mem) : Prop := (∀ i, i < l → s.1 195 i = nI (RN n o (rqq n i))) ∧ ∀ t, t < fac n → s.1 194 (RN n o t) = if rp n t < l then nI (dayN n t) else 1000000
theorem bfR_fr {n l : Nat} {o : Nat → Nat} {s s' : Mem} (h : BfR n o l s) (e1 : s'.1 194 = s.1 194) (e2 : s'.1 195 = s.1 195) : BfR n o l s' := by
  unfold BfR; rw [e1, e2]; exact h
theorem bq_some {n i l : Nat} : ∀ m k q, bq n i l (k + m) = some q → ∃ p, bq n i l k = some p
  | 0, _, q, h => ⟨q, h⟩
  | m + 1, k, q, h => by
    have h : (bq n i l (k + m)).bind (bq1 n i (k + m)) = some q := h
    cases e : bq n i l (k + m) with
    | none => rw [e] at h; cases h
    | some p => exact bq_some m k p e
theorem bqs_some {n : Nat} : ∀ m k q, bqs n (k + m) = some q → ∃ p, bqs n k = some p
  | 0, _, q, h => ⟨q, h⟩
  | m + 1, k, q, h => by
    have h : (bqs n (k + m)).bind (fun l => if k + m < l then bq n (k + m) l (setsN n) else none) = some q := h
    cases e : bqs n (k + m) with
    | none => rw [e] at h; cases h
    | some p => exact bqs_some m k p e
def PSn (a : Nat) : Prop := a = 189 ∨ a = 190 ∨ (192 ≤ a ∧ a ≤ 195)
theorem ln194 : ln 194 = 720 := by decide
theorem ln195 : ln 195 = 720 := by decide
theorem r_spread {s : Mem} {n i l l' : Nat} {o : Nat → Nat} {k70 : Int32 → Int32 → Mem → Option Mem} {Q : Mem → Prop} (hn : n ≤ 6) (ho : Prm n o) (hi : i < fac n) (hil : i < l) (hl : l ≤ fac n) (h3 : s.1 169 3 = nI n) (h40 : s.1 169 40 = nI (setsN n)) (hset : SetR n (setsN n) s) (hord : ∀ k, k < n → s.1 189 k = nI (o (un n (rqq n i) k))) (hB : BfR n o l s) (hs : bq n i l (setsN n) = some l')
    (kk : ∀ s', l' ≤ fac n → l ≤ l' → s'.1 169 3 = nI n → s'.1 169 40 = nI (setsN n) → SetR n (setsN n) s' → BfR n o l' s' → FrR PSn (fun _ => False) s s' → Ok (k70 (nI l') (nI (i + 1)) s') Q) : Ok (fX10_laysSoon_91 k70 FU (nI l) (nI i) 0 s) Q := by
  have hfl := fac_le hn
  obtain ⟨s20, _, _⟩ := sets_le hn
  have hrp := rn_prm hn ho
  obtain ⟨_, _, _, c4, _, c6⟩ := chk3_n hn hi
  have hpi := (chk1_n hn c6).1
  have hFU : 2000 < FU := FU_big
  generalize FU = fu0 at hFU ⊢
  refine ok_loop (setsN n) (fun fu k (x : Int32 × Mem) => fX10_laysSoon_91 k70 fu x.1 (nI i) (nI k) x.2) (fun k x => ∃ g, bq n i l k = some g ∧ l ≤ g ∧ g ≤ fac n ∧ x.1 = nI g ∧ BfR n o g x.2 ∧ FrR (fun a => a = 190 ∨ a = 194 ∨ a = 195) (fun _ => False) s x.2) ?_ ?_ fu0 0 (nI l, s) (by omega) (by omega) ⟨l, rfl, Nat.le_refl _, hl, rfl, hB, frR_rfl⟩
  · intro fu k x hk hx ih
    obtain ⟨g, g1, gl, gf, g2, g3, g4⟩ := hx
    obtain ⟨p, hp⟩ := bq_some (setsN n - (k + 1)) (k + 1) _ (by rw [show k + 1 + (setsN n - (k + 1)) = setsN n by omega]; exact hs)
    have hp' : bq1 n i k g = some p := by
      have : (bq n i l k).bind (bq1 n i k) = some p := hp
      rw [g1] at this
      exact this
    have hsn := sN_lt hn hk
    have hps := (chk1_n hn hsn).1
    obtain ⟨cn1, cn2, cn3⟩ := cN_un hn c6 hk
    have t40 : x.2.1 169 40 = nI (setsN n) := by rw [g4.2.1 40 (fun q => q)]; exact h40
    rw [e_X10_laysSoon_91, g2]
    simp (disch := omega) only [↓reduceIte, ic_t, ic_f, not_true_eq_false, not_false_eq_true, ↓lt_v, rdR, rdE, rdS, leT, leTc, leTd, leF, leFc, leFd, ltT, ltTc, ltTd, ltF, ltFc, ltFd, eqT, eqTc, eqTd, eqF, eqFc, eqFd, m1T, m1F, m1T', m1F', inb_nI, ix_nI, inb_c, ix_c, nI_1, nI_pred, nI_m1, add_nIc, add_cnI, bd_v, reduceCtorEq, eqFcc, m1e0, m1e1, m1l0, m1g0, m2l0, m2g0, Int32.reduceLT, Int32.reduceLE, Int32.reduceAdd, Int32.reduceSub, Int32.reduceMul, eq_self, Bool.false_eq_true, t40]
    have hFU2 : 2000 < FU := FU_big
    generalize FU = fu2 at hFU2 ⊢
    refine ok_loop n (fun fu2 j y => fX10_laysSoon_102 (fX10_laysSoon_91 k70 fu) fu2 (nI g) (nI i) (nI k) (nI j) y) (fun j y => (∀ a, a < j → y.1 190 a = nI (o (un n (rqq n i) (un n (sN n k) a)))) ∧ FrR (fun a => a = 190) (fun _ => False) x.2 y) ?_ ?_ fu2 0 x.2 (by omega) (by omega) ⟨fun a ha => absurd ha (Nat.not_lt_zero _), frR_rfl⟩
    · intro fu2 j y hj hy ih2
      obtain ⟨y1, y2⟩ := hy
      have t0 : y.1 169 3 = nI n := by rw [y2.2.1 3 (fun q => q), g4.2.1 3 (fun q => q)]; exact h3
      have e6 : 6 * nI k + nI j = nI (6 * k + j) := by rw [show (6 : Int32) = nI 6 from rfl, pk_mul, nI_add]
      have t1 : y.1 192 (6 * k + j) = nI (un n (sN n k) j) := by rw [y2.1 192 (by omega) (by omega), g4.1 192 (by omega) (by omega)]; exact hset k hk j hj
      have hu := hps.1 j hj
      have t2 : y.1 189 (un n (sN n k) j) = nI (o (un n (rqq n i) (un n (sN n k) j))) := by rw [y2.1 189 (by omega) (by omega), g4.1 189 (by omega) (by omega)]; exact hord _ hu
      rw [e_X10_laysSoon_102]
      simp (disch := omega) only [↓reduceIte, ic_t, ic_f, not_true_eq_false, not_false_eq_true, ↓lt_v, rdR, rdE, rdS, leT, leTc, leTd, leF, leFc, leFd, ltT, ltTc, ltTd, ltF, ltFc, ltFd, eqT, eqTc, eqTd, eqF, eqFc, eqFd, m1T, m1F, m1T', m1F', inb_nI, ix_nI, inb_c, ix_c, nI_1, nI_pred, nI_m1, add_nIc, add_cnI, bd_v, reduceCtorEq, eqFcc, m1e0, m1e1, m1l0, m1g0, m2l0, m2g0, Int32.reduceLT, Int32.reduceLE, Int32.reduceAdd, Int32.reduceSub, Int32.reduceMul, eq_self, Bool.false_eq_true, t0, e6, t1, t2]
      refine ih2 _ ⟨fun a ha => ?_, frR_trans y2 (frR_sI (by omega) (by omega))⟩
      by_cases e : a = j
      · subst e; simp (disch := omega) only [↓reduceIte, ic_t, ic_f, not_true_eq_false, not_false_eq_true, ↓lt_v, rdR, rdE, rdS, leT, leTc, leTd, leF, leFc, leFd, ltT, ltTc, ltTd, ltF, ltFc, ltFd, eqT, eqTc, eqTd, eqF, eqFc, eqFd, m1T, m1F, m1T', m1F', inb_nI, ix_nI, inb_c, ix_c, nI_1, nI_pred, nI_m1, add_nIc, add_cnI, bd_v, reduceCtorEq, eqFcc, m1e0, m1e1, m1l0, m1g0, m2l0, m2g0, Int32.reduceLT, Int32.reduceLE, Int32.reduceAdd, Int32.reduceSub, Int32.reduceMul, eq_self, Bool.false_eq_true]
      · simp (disch := omega) only [↓reduceIte, ic_t, ic_f, not_true_eq_false, not_false_eq_true, ↓lt_v, rdR, rdE, rdS, leT, leTc, leTd, leF, leFc, leFd, ltT, ltTc, ltTd, ltF, ltFc, ltFd, eqT, eqTc, eqTd, eqF, eqFc, eqFd, m1T, m1F, m1T', m1F', inb_nI, ix_nI, inb_c, ix_c, nI_1, nI_pred, nI_m1, add_nIc, add_cnI, bd_v, reduceCtorEq, eqFcc, m1e0, m1e1, m1l0, m1g0, m2l0, m2g0, Int32.reduceLT, Int32.reduceLE, Int32.reduceAdd, Int32.reduceSub, Int32.reduceMul, eq_self, Bool.false_eq_true]; exact y1 a (by omega)
    · intro fu2 y hy
      obtain ⟨y1, y2⟩ := hy
      have t0 : y.1 169 3 = nI n := by rw [y2.2.1 3 (fun q => q), g4.2.1 3 (fun q => q)]; exact h3
      have hpc := prm_comp (prm_comp ho hpi) hps
      have hnum := r_numberOf (s := y) (a1 := 190) (o := fun a => o (un n (rqq n i) (un n (sN n k) a))) hn (by rw [ln190]; omega) (by rw [ln190]; omega) t0 (fun a ha => ⟨y1 a ha, by have := hpc.1 a ha; have q : o (un n (rqq n i) (un n (sN n k) a)) < n := this; omega⟩)
      have elh : lh n (fun a => o (un n (rqq n i) (un n (sN n k) a))) n = RN n o (cN n (rqq n i) k) := lh_congr (fun a ha => by rw [cn2 a ha]) n (Nat.le_refl _)
      rw [elh] at hnum
      have by' : BfR n o g y := bfR_fr g3 (y2.1 194 (by omega) (by omega)) (y2.1 195 (by omega) (by omega))
      have hm := by'.2 _ cn1
      have hq : y.1 195 i = nI (RN n o (rqq n i)) := by'.1 i (by omega)
      have hd := by'.2 _ c6
      rw [c4, if_pos (by omega)] at hd
      have fy : FrR (fun a => a = 190 ∨ a = 194 ∨ a = 195) (fun _ => False) s y := frR_trans g4 (frR_sub y2 (fun a _ ha => by omega) (fun i hi => hi.elim))
      have rl1 := hrp.1 _ cn1
      have rl2 := hrp.1 _ c6
      have dl1 := dayN_lt (n := n) (j := cN n (rqq n i) k)
      generalize hT : cN n (rqq n i) k = T at *
      rw [e_X10_laysSoon_102]
      simp (disch := omega) only [↓reduceIte, ic_t, ic_f, not_true_eq_false, not_false_eq_true, ↓lt_v, rdR, rdE, rdS, leT, leTc, leTd, leF, leFc, leFd, ltT, ltTc, ltTd, ltF, ltFc, ltFd, eqT, eqTc, eqTd, eqF, eqFc, eqFd, m1T, m1F, m1T', m1F', inb_nI, ix_nI, inb_c, ix_c, nI_1, nI_pred, nI_m1, add_nIc, add_cnI, bd_v, reduceCtorEq, eqFcc, m1e0, m1e1, m1l0, m1g0, m2l0, m2g0, Int32.reduceLT, Int32.reduceLE, Int32.reduceAdd, Int32.reduceSub, Int32.reduceMul, eq_self, Bool.false_eq_true, t0, hnum]
      rw [hm]
      unfold bq1 at hp'
      rw [hT] at hp'
      by_cases c1 : rp n T < g
      · rw [if_pos c1] at hp' ⊢
        injection hp' with hp'
        subst hp'
        simp (disch := omega) only [↓reduceIte, ic_t, ic_f, not_true_eq_false, not_false_eq_true, ↓lt_v, rdR, rdE, rdS, leT, leTc, leTd, leF, leFc, leFd, ltT, ltTc, ltTd, ltF, ltFc, ltFd, eqT, eqTc, eqTd, eqF, eqFc, eqFd, m1T, m1F, m1T', m1F', inb_nI, ix_nI, inb_c, ix_c, nI_1, nI_pred, nI_m1, add_nIc, add_cnI, bd_v, reduceCtorEq, eqFcc, m1e0, m1e1, m1l0, m1g0, m2l0, m2g0, Int32.reduceLT, Int32.reduceLE, Int32.reduceAdd, Int32.reduceSub, Int32.reduceMul, eq_self, Bool.false_eq_true]
        exact ih (nI g, y) ⟨g, hp, gl, gf, rfl, by', fy⟩
      · rw [if_neg c1] at hp' ⊢
        by_cases c2 : rp n T = g ∧ dayN n T = dayN n (rqq n i) + 1
        · rw [if_pos c2] at hp'
          injection hp' with hp'
          obtain ⟨_, _, d3, d4, d5, d6⟩ := chk3_n hn cn1
          simp (disch := omega) only [↓reduceIte, ic_t, ic_f, not_true_eq_false, not_false_eq_true, ↓lt_v, rdR, rdE, rdS, leT, leTc, leTd, leF, leFc, leFd, ltT, ltTc, ltTd, ltF, ltFc, ltFd, eqT, eqTc, eqTd, eqF, eqFc, eqFd, m1T, m1F, m1T', m1F', inb_nI, ix_nI, inb_c, ix_c, nI_1, nI_pred, nI_m1, add_nIc, add_cnI, bd_v, reduceCtorEq, eqFcc, m1e0, m1e1, m1l0, m1g0, m2l0, m2g0, Int32.reduceLT, Int32.reduceLE, Int32.reduceAdd, Int32.reduceSub, Int32.reduceMul, eq_self, Bool.false_eq_true, hq, hd]
          refine ih (nI (g + 1), sI (sI y 194 (RN n o T) (nI (dayN n (rqq n i) + 1))) 195 g (nI (RN n o T))) ⟨g + 1, by rw [hp, hp'], by omega, by omega, rfl, ⟨fun a ha => ?_, fun t ht => ?_⟩, frR_trans (frR_trans fy (frR_sI (by omega) (by omega))) (frR_sI (by omega) (by omega))⟩
          · by_cases e : a = g
            · subst e
              rw [← c2.1, d3, c2.1]
              simp (disch := omega) only [↓reduceIte, ic_t, ic_f, not_true_eq_false, not_false_eq_true, ↓lt_v, rdR, rdE, rdS, leT, leTc, leTd, leF, leFc, leFd, ltT, ltTc, ltTd, ltF, ltFc, ltFd, eqT, eqTc, eqTd, eqF, eqFc, eqFd, m1T, m1F, m1T', m1F', inb_nI, ix_nI, inb_c, ix_c, nI_1, nI_pred, nI_m1, add_nIc, add_cnI, bd_v, reduceCtorEq, eqFcc, m1e0, m1e1, m1l0, m1g0, m2l0, m2g0, Int32.reduceLT, Int32.reduceLE, Int32.reduceAdd, Int32.reduceSub, Int32.reduceMul, eq_self, Bool.false_eq_true]
            · simp (disch := omega) only [↓reduceIte, ic_t, ic_f, not_true_eq_false, not_false_eq_true, ↓lt_v, rdR, rdE, rdS, leT, leTc, leTd, leF, leFc, leFd, ltT, ltTc, ltTd, ltF, ltFc, ltFd, eqT, eqTc, eqTd, eqF, eqFc, eqFd, m1T, m1F, m1T', m1F', inb_nI, ix_nI, inb_c, ix_c, nI_1, nI_pred, nI_m1, add_nIc, add_cnI, bd_v, reduceCtorEq, eqFcc, m1e0, m1e1, m1l0, m1g0, m2l0, m2g0, Int32.reduceLT, Int32.reduceLE, Int32.reduceAdd, Int32.reduceSub, Int32.reduceMul, eq_self, Bool.false_eq_true]
              exact by'.1 a (by omega)
          · by_cases e : t = T
            · subst e
              rw [if_pos (by omega), c2.2]
              simp (disch := omega) only [↓reduceIte, ic_t, ic_f, not_true_eq_false, not_false_eq_true, ↓lt_v, rdR, rdE, rdS, leT, leTc, leTd, leF, leFc, leFd, ltT, ltTc, ltTd, ltF, ltFc, ltFd, eqT, eqTc, eqTd, eqF, eqFc, eqFd, m1T, m1F, m1T', m1F', inb_nI, ix_nI, inb_c, ix_c, nI_1, nI_pred, nI_m1, add_nIc, add_cnI, bd_v, reduceCtorEq, eqFcc, m1e0, m1e1, m1l0, m1g0, m2l0, m2g0, Int32.reduceLT, Int32.reduceLE, Int32.reduceAdd, Int32.reduceSub, Int32.reduceMul, eq_self, Bool.false_eq_true]
            · have hne : rp n t ≠ g := fun q => by
                have h1 := (chk3_n hn ht).2.2.1
                rw [q] at h1
                rw [c2.1] at d3
                exact e (h1.symm.trans d3)
              have hne2 : RN n o t ≠ RN n o T := fun q => e (hrp.2 _ _ ht cn1 q)
              simp (disch := omega) only [↓reduceIte, ic_t, ic_f, not_true_eq_false, not_false_eq_true, ↓lt_v, rdR, rdE, rdS, leT, leTc, leTd, leF, leFc, leFd, ltT, ltTc, ltTd, ltF, ltFc, ltFd, eqT, eqTc, eqTd, eqF, eqFc, eqFd, m1T, m1F, m1T', m1F', inb_nI, ix_nI, inb_c, ix_c, nI_1, nI_pred, nI_m1, add_nIc, add_cnI, bd_v, reduceCtorEq, eqFcc, m1e0, m1e1, m1l0, m1g0, m2l0, m2g0, Int32.reduceLT, Int32.reduceLE, Int32.reduceAdd, Int32.reduceSub, Int32.reduceMul, eq_self, Bool.false_eq_true]
              rw [by'.2 t ht]
              by_cases c3 : rp n t < g
              · rw [if_pos c3, if_pos (by omega)]
              · rw [if_neg c3, if_neg (by omega)]
        · rw [if_neg c2] at hp'; cases hp'
  · intro fu x hx
    obtain ⟨g, g1, gl, gf, g2, g3, g4⟩ := hx
    rw [hs] at g1
    injection g1 with g1
    subst g1
    have t40 : x.2.1 169 40 = nI (setsN n) := by rw [g4.2.1 40 (fun q => q)]; exact h40
    rw [e_X10_laysSoon_91, g2]
    simp (disch := omega) only [↓reduceIte, ic_t, ic_f, not_true_eq_false, not_false_eq_true, ↓lt_v, rdR, rdE, rdS, leT, leTc, leTd, leF, leFc, leFd, ltT, ltTc, ltTd, ltF, ltFc, ltFd, eqT, eqTc, eqTd, eqF, eqFc, eqFd, m1T, m1F, m1T', m1F', inb_nI, ix_nI, inb_c, ix_c, nI_1, nI_pred, nI_m1, add_nIc, add_cnI, bd_v, reduceCtorEq, eqFcc, m1e0, m1e1, m1l0, m1g0, m2l0, m2g0, Int32.reduceLT, Int32.reduceLE, Int32.reduceAdd, Int32.reduceSub, Int32.reduceMul, eq_self, Bool.false_eq_true, t40]
    exact kk x.2 gf gl (by rw [g4.2.1 3 (fun q => q)]; exact h3) t40 (fun a ha b hb => by rw [g4.1 192 (by omega) (by omega)]; exact hset a ha b hb) g3 (frR_sub g4 (fun a _ ha => by unfold PSn; omega) (fun i hi => hi))
