/-! PURE: class: findDays, prepare -/
theorem lvl1_b {n d j f g : Nat} (h : lvl1 n d j f = some g) (hf : f ≤ 1024) : g ≤ 1024 := by
  unfold lvl1 at h
  split at h
  · exact (spr_b hf _ g h).2
  · injection h with h; omega
theorem lvl_b {n d f : Nat} (hf : f ≤ 1024) : ∀ j g, lvl n d f j = some g → g ≤ 1024
  | 0, g, h => by injection h with h; omega
  | j + 1, g, h => by
    have h : (lvl n d f j).bind (lvl1 n d j) = some g := h
    cases e : lvl n d f j with
    | none => rw [e] at h; cases h
    | some p =>
      rw [e] at h
      exact lvl1_b h (lvl_b hf j p e)
theorem lvl_some {n d f : Nat} : ∀ m k q, lvl n d f (k + m) = some q → ∃ p, lvl n d f k = some p
  | 0, _, q, h => ⟨q, h⟩
  | m + 1, k, q, h => by
    have h : (lvl n d f (k + m)).bind (lvl1 n d (k + m)) = some q := h
    cases e : lvl n d f (k + m) with
    | none => rw [e] at h; cases h
    | some p => exact lvl_some m k p e
theorem dys_some {n : Nat} : ∀ m k q, dys n (k + m) = some q → ∃ p, dys n k = some p
  | 0, _, q, h => ⟨q, h⟩
  | m + 1, k, q, h => by
    have h : (dys n (k + m)).bind (fun f => if fac n ≤ f then some f else lvl n (k + m) f (fac n)) = some q := h
    cases e : dys n (k + m) with
    | none => rw [e] at h; cases h
    | some p => exact dys_some m k p e
theorem dys_b {n : Nat} : ∀ d g, dys n d = some g → g ≤ 1024
  | 0, g, h => by injection h with h; omega
  | d + 1, g, h => by
    have h : (dys n d).bind (fun f => if fac n ≤ f then some f else lvl n d f (fac n)) = some g := h
    cases e : dys n d with
    | none => rw [e] at h; cases h
    | some p =>
      rw [e] at h
      have hb := dys_b d p e
      have h : (if fac n ≤ p then some p else lvl n d p (fac n)) = some g := h
      split at h
      · injection h with h; omega
      · exact lvl_b hb _ g h
theorem dys_full {n k f : Nat} (h : dys n k = some f) (hf : fac n ≤ f) : ∀ m, dys n (k + m) = some f
  | 0 => h
  | m + 1 => by
    show (dys n (k + m)).bind (fun f => if fac n ≤ f then some f else lvl n (k + m) f (fac n)) = some f
    rw [dys_full h hf m]
    exact if_pos hf
theorem day0 {n : Nat} (hn : n ≤ 6) : dayN n 0 = 0 ∧ cp n 0 = 0 := by
  have h : ∀ n, n < 7 → dayN n 0 = 0 ∧ cp n 0 = 0 := by decide +kernel
  exact h n (by omega)
def PF (a : Nat) : Prop := a = 137 ∨ a = 139 ∨ a = 140
theorem c_level {M : Mem} {n d f f' : Nat} {k34 : Int32 → Int32 → Mem → Option Mem} {Q : Mem → Prop} (hn : n ≤ 6) (hd : d < 6) (hf : f ≤ 1024) (hl : LwC n (LW n) M) (hD : DyC n f M) (hs : lvl n d f (fac n) = some f')
    (kk : ∀ M', DyC n f' M' → Fr PF M M' → Ok (k34 (nI f') (nI (d + 1)) M') Q) : Ok (fX1_findDays_50 k34 FU (nI f) (nI d) 0 M) Q := by
  have hfl := fac_le hn
  obtain ⟨s20, _, _⟩ := sets_le hn
  have hFU : 2000 < FU := FU_big
  generalize FU = fu0 at hFU ⊢
  refine ok_loop (fac n) (fun fu j (x : Int32 × Mem) => fX1_findDays_50 k34 fu x.1 (nI d) (nI j) x.2) (fun j x => ∃ g, lvl n d f j = some g ∧ x.1 = nI g ∧ DyC n g x.2 ∧ Fr PF M x.2) ?_ ?_ fu0 0 (nI f, M) (by omega) (by omega) ⟨f, rfl, rfl, hD, fr_rfl⟩
  · intro fu j x hj hx ih
    obtain ⟨g, g1, g2, g3, g4⟩ := hx
    obtain ⟨p, hp⟩ := lvl_some (fac n - (j + 1)) (j + 1) _ (by rw [show j + 1 + (fac n - (j + 1)) = fac n by omega]; exact hs)
    have hp' : lvl1 n d j g = some p := by
      have : (lvl n d f j).bind (lvl1 n d j) = some p := hp
      rw [g1] at this
      exact this
    have gb := lvl_b hf j g g1
    have l1 : LwC n (LW n) x.2 := lwC_fr hl s20 (fun a _ _ => g4.1 a (by unfold PF; omega))
    have t1 := l1.2.1
    have t2 := g3 j hj
    have dl := dayN_lt (n := n) (j := j)
    rw [e_X1_findDays_50, g2]
    simp (disch := omega) only [↓reduceIte, ic_t, ic_f, not_true_eq_false, not_false_eq_true, ↓lt_v, rdR, rdE, rdS, leT, leTc, leTd, leF, leFc, leFd, ltT, ltTc, ltTd, ltF, ltFc, ltFd, eqT, eqTc, eqTd, eqF, eqFc, eqFd, m1T, m1F, m1T', m1F', inb_nI, ix_nI, inb_c, ix_c, nI_1, nI_pred, nI_m1, add_nIc, add_cnI, bd_v, reduceCtorEq, eqFcc, m1e0, m1e1, m1l0, m1g0, m2l0, m2g0, Int32.reduceLT, Int32.reduceLE, Int32.reduceAdd, Int32.reduceSub, Int32.reduceMul, eq_self, Bool.false_eq_true, t1]
    rw [t2]
    unfold lvl1 at hp'
    by_cases c : cp n j < g ∧ dayN n j = d
    · rw [if_pos c] at hp'
      rw [if_pos c.1, c.2, ic_pos rfl]
      refine ok_call (c_unpack hn hj l1.1 t1) (fun M1 h => ?_)
      obtain ⟨h1, h2⟩ := h
      refine ok_call (c_spread (M := M1) (f := g) hn (by omega) hj gb (lwC_fr l1 s20 (fun a _ _ => h2.1 a (by omega))) h1 (fun t ht => by rw [h2.1 137 (by omega)]; exact g3 t ht) hp') (fun q w => ?_)
      obtain ⟨w1, w2, w3⟩ := w
      have hb := spr_b gb _ p hp'
      rw [w1, nI_add, show g + (p - g) = p by omega]
      exact ih (nI p, q.2) ⟨p, hp, rfl, w2, fr_trans g4 (fr_trans (fr_sub h2 (fun a ha => by unfold PF; omega)) (fr_sub w3 (fun a ha => by unfold PF; omega)))⟩
    · rw [if_neg c] at hp'
      injection hp' with hp'
      subst hp'
      have hne : ¬ (if cp n j < g then nI (dayN n j) else -1) = nI d := by
        by_cases c1 : cp n j < g
        · rw [if_pos c1, nI_eq (by omega) (by omega)]
          exact fun q => c ⟨c1, q⟩
        · rw [if_neg c1]
          intro q
          have : (-1 : Int32) < 0 := by decide
          rw [q] at this
          exact nI_pos (by omega) this
      rw [ic_neg hne]
      exact ih (nI g, x.2) ⟨g, hp, rfl, g3, g4⟩
  · intro fu x hx
    obtain ⟨g, g1, g2, g3, g4⟩ := hx
    rw [hs] at g1
    injection g1 with g1
    subst g1
    have t1 : x.2.1 115 1 = nI (fac n) := by rw [g4.1 115 (by unfold PF; omega)]; exact hl.2.1
    rw [e_X1_findDays_50, g2]
    simp (disch := omega) only [↓reduceIte, ic_t, ic_f, not_true_eq_false, not_false_eq_true, ↓lt_v, rdR, rdE, rdS, leT, leTc, leTd, leF, leFc, leFd, ltT, ltTc, ltTd, ltF, ltFc, ltFd, eqT, eqTc, eqTd, eqF, eqFc, eqFd, m1T, m1F, m1T', m1F', inb_nI, ix_nI, inb_c, ix_c, nI_1, nI_pred, nI_m1, add_nIc, add_cnI, bd_v, reduceCtorEq, eqFcc, m1e0, m1e1, m1l0, m1g0, m2l0, m2g0, Int32.reduceLT, Int32.reduceLE, Int32.reduceAdd, Int32.reduceSub, Int32.reduceMul, eq_self, Bool.false_eq_true, t1]
    exact kk x.2 g3 g4
theorem c_findDays {M : Mem} {n : Nat} (hn : n ≤ 6) (hl : LwC n (LW n) M) : Ok (fX1_findDays M) (fun M' => (∀ t, t < fac n → M'.1 137 t = nI (dayN n t)) ∧ Fr PF M M') := by
  have hfl := fac_le hn
  have hfp := fac_pos n
  obtain ⟨s20, _, _⟩ := sets_le hn
  have hF := dys_ok n (by omega)
  obtain ⟨d0, p0⟩ := day0 hn
  have full : ∀ s, DyC n (fac n) s → ∀ t, t < fac n → s.1 137 t = nI (dayN n t) := fun s h t ht => by
    rw [h t ht]
    by_cases c : cp n t < fac n
    · rw [if_pos c]
    · exfalso
      have h1 : DyC n (fac n) s := h
      exact c (by
        have hh : ∀ n, n < 7 → ∀ t, t < fac n → cp n t < fac n := by
          have q : allB 7 (fun n => allB (fac n) (fun t => decide (cp n t < fac n))) = true := by decide +kernel
          exact fun n hn t ht => of_decide_eq_true (allB_i _ (allB_i _ q n hn) t ht)
        exact hh n (by omega) t ht)
  rw [e_X1_findDays]
  have hFU : 2000 < FU := FU_big
  generalize FU = fu0 at hFU ⊢
  refine ok_loop (fac n) (fun fu k s => fX1_findDays_2 fu (nI k) s) (fun k s => (∀ t, t < k → s.1 137 t = -1) ∧ Fr PF M s) ?_ ?_ fu0 0 M (by omega) (by omega) ⟨fun t ht => absurd ht (Nat.not_lt_zero _), fr_rfl⟩
  · intro fu k s hk hs ih
    obtain ⟨b1, b2⟩ := hs
    have t1 : s.1 115 1 = nI (fac n) := by rw [b2.1 115 (by unfold PF; omega)]; exact hl.2.1
    rw [e_X1_findDays_2]
    simp (disch := omega) only [↓reduceIte, ic_t, ic_f, not_true_eq_false, not_false_eq_true, ↓lt_v, rdR, rdE, rdS, leT, leTc, leTd, leF, leFc, leFd, ltT, ltTc, ltTd, ltF, ltFc, ltFd, eqT, eqTc, eqTd, eqF, eqFc, eqFd, m1T, m1F, m1T', m1F', inb_nI, ix_nI, inb_c, ix_c, nI_1, nI_pred, nI_m1, add_nIc, add_cnI, bd_v, reduceCtorEq, eqFcc, m1e0, m1e1, m1l0, m1g0, m2l0, m2g0, Int32.reduceLT, Int32.reduceLE, Int32.reduceAdd, Int32.reduceSub, Int32.reduceMul, eq_self, Bool.false_eq_true, t1]
    refine ih _ ⟨fun t ht => ?_, fr_trans b2 (fr_sI (by unfold PF; omega))⟩
    by_cases e : t = k
    · subst e; simp (disch := omega) only [↓reduceIte, ic_t, ic_f, not_true_eq_false, not_false_eq_true, ↓lt_v, rdR, rdE, rdS, leT, leTc, leTd, leF, leFc, leFd, ltT, ltTc, ltTd, ltF, ltFc, ltFd, eqT, eqTc, eqTd, eqF, eqFc, eqFd, m1T, m1F, m1T', m1F', inb_nI, ix_nI, inb_c, ix_c, nI_1, nI_pred, nI_m1, add_nIc, add_cnI, bd_v, reduceCtorEq, eqFcc, m1e0, m1e1, m1l0, m1g0, m2l0, m2g0, Int32.reduceLT, Int32.reduceLE, Int32.reduceAdd, Int32.reduceSub, Int32.reduceMul, eq_self, Bool.false_eq_true]
    · simp (disch := omega) only [↓reduceIte, ic_t, ic_f, not_true_eq_false, not_false_eq_true, ↓lt_v, rdR, rdE, rdS, leT, leTc, leTd, leF, leFc, leFd, ltT, ltTc, ltTd, ltF, ltFc, ltFd, eqT, eqTc, eqTd, eqF, eqFc, eqFd, m1T, m1F, m1T', m1F', inb_nI, ix_nI, inb_c, ix_c, nI_1, nI_pred, nI_m1, add_nIc, add_cnI, bd_v, reduceCtorEq, eqFcc, m1e0, m1e1, m1l0, m1g0, m2l0, m2g0, Int32.reduceLT, Int32.reduceLE, Int32.reduceAdd, Int32.reduceSub, Int32.reduceMul, eq_self, Bool.false_eq_true]; exact b1 t (by omega)
  · intro fu s hs
    obtain ⟨b1, b2⟩ := hs
    have t1 : s.1 115 1 = nI (fac n) := by rw [b2.1 115 (by unfold PF; omega)]; exact hl.2.1
    rw [e_X1_findDays_2]
    simp (disch := omega) only [↓reduceIte, ic_t, ic_f, not_true_eq_false, not_false_eq_true, ↓lt_v, rdR, rdE, rdS, leT, leTc, leTd, leF, leFc, leFd, ltT, ltTc, ltTd, ltF, ltFc, ltFd, eqT, eqTc, eqTd, eqF, eqFc, eqFd, m1T, m1F, m1T', m1F', inb_nI, ix_nI, inb_c, ix_c, nI_1, nI_pred, nI_m1, add_nIc, add_cnI, bd_v, reduceCtorEq, eqFcc, m1e0, m1e1, m1l0, m1g0, m2l0, m2g0, Int32.reduceLT, Int32.reduceLE, Int32.reduceAdd, Int32.reduceSub, Int32.reduceMul, eq_self, Bool.false_eq_true, t1]
    have dy1 : DyC n 1 (sI s 137 0 0) := fun t ht => by
      by_cases e : t = 0
      · subst e
        rw [p0, if_pos (by omega), d0]
        simp (disch := omega) only [↓reduceIte, ic_t, ic_f, not_true_eq_false, not_false_eq_true, ↓lt_v, rdR, rdE, rdS, leT, leTc, leTd, leF, leFc, leFd, ltT, ltTc, ltTd, ltF, ltFc, ltFd, eqT, eqTc, eqTd, eqF, eqFc, eqFd, m1T, m1F, m1T', m1F', inb_nI, ix_nI, inb_c, ix_c, nI_1, nI_pred, nI_m1, add_nIc, add_cnI, bd_v, reduceCtorEq, eqFcc, m1e0, m1e1, m1l0, m1g0, m2l0, m2g0, Int32.reduceLT, Int32.reduceLE, Int32.reduceAdd, Int32.reduceSub, Int32.reduceMul, eq_self, Bool.false_eq_true]
      · have hne : ¬ cp n t < 1 := fun q => by
          have h1 := (chk3_n hn ht).2.1
          have h2 := (chk3_n hn hfp).2.1
          rw [show cp n t = 0 by omega] at h1
          rw [p0] at h2
          exact e (h1.symm.trans h2)
        rw [if_neg hne]
        simp (disch := omega) only [↓reduceIte, ic_t, ic_f, not_true_eq_false, not_false_eq_true, ↓lt_v, rdR, rdE, rdS, leT, leTc, leTd, leF, leFc, leFd, ltT, ltTc, ltTd, ltF, ltFc, ltFd, eqT, eqTc, eqTd, eqF, eqFc, eqFd, m1T, m1F, m1T', m1F', inb_nI, ix_nI, inb_c, ix_c, nI_1, nI_pred, nI_m1, add_nIc, add_cnI, bd_v, reduceCtorEq, eqFcc, m1e0, m1e1, m1l0, m1g0, m2l0, m2g0, Int32.reduceLT, Int32.reduceLE, Int32.reduceAdd, Int32.reduceSub, Int32.reduceMul, eq_self, Bool.false_eq_true]
        exact b1 t ht
    have f1 : Fr PF M (sI s 137 0 0) := fr_trans b2 (fr_sI (by unfold PF; omega))
    generalize sI s 137 0 0 = M1 at dy1 f1 ⊢
    have hFU2 : 2000 < FU := FU_big
    have hFF : FU = FU := rfl
    generalize e2 : FU = fu2 at hFU2 ⊢
    refine ok_loop 6 (fun fu d (x : Int32 × Mem) => fX1_findDays_34 fu x.1 (nI d) x.2) (fun d x => ∃ f, dys n d = some f ∧ x.1 = nI f ∧ DyC n f x.2 ∧ Fr PF M x.2) ?_ ?_ fu2 0 (1, M1) (by omega) (by omega) ⟨1, rfl, rfl, dy1, f1⟩
    · intro fu d x hd hx ih
      obtain ⟨f, g1, g2, g3, g4⟩ := hx
      have hb := dys_b d f g1
      have l1 : LwC n (LW n) x.2 := lwC_fr hl s20 (fun a _ _ => g4.1 a (by unfold PF; omega))
      have t1 := l1.2.1
      rw [e_X1_findDays_34, g2]
      by_cases c : fac n ≤ f
      · have := dys_full g1 c (6 - d)
        rw [show d + (6 - d) = 6 by omega, hF] at this
        injection this with this
        subst this
        simp (disch := omega) only [↓reduceIte, ic_t, ic_f, not_true_eq_false, not_false_eq_true, ↓lt_v, rdR, rdE, rdS, leT, leTc, leTd, leF, leFc, leFd, ltT, ltTc, ltTd, ltF, ltFc, ltFd, eqT, eqTc, eqTd, eqF, eqFc, eqFd, m1T, m1F, m1T', m1F', inb_nI, ix_nI, inb_c, ix_c, nI_1, nI_pred, nI_m1, add_nIc, add_cnI, bd_v, reduceCtorEq, eqFcc, m1e0, m1e1, m1l0, m1g0, m2l0, m2g0, Int32.reduceLT, Int32.reduceLE, Int32.reduceAdd, Int32.reduceSub, Int32.reduceMul, eq_self, Bool.false_eq_true, t1]
        exact ok_some ⟨full x.2 g3, g4⟩
      · obtain ⟨p, hp⟩ := dys_some (6 - (d + 1)) (d + 1) _ (by rw [show d + 1 + (6 - (d + 1)) = 6 by omega]; exact hF)
        have hp' : lvl n d f (fac n) = some p := by
          have : (dys n d).bind (fun f => if fac n ≤ f then some f else lvl n d f (fac n)) = some p := hp
          rw [g1] at this
          have this : (if fac n ≤ f then some f else lvl n d f (fac n)) = some p := this
          rw [if_neg c] at this
          exact this
        simp (disch := omega) only [↓reduceIte, ic_t, ic_f, not_true_eq_false, not_false_eq_true, ↓lt_v, rdR, rdE, rdS, leT, leTc, leTd, leF, leFc, leFd, ltT, ltTc, ltTd, ltF, ltFc, ltFd, eqT, eqTc, eqTd, eqF, eqFc, eqFd, m1T, m1F, m1T', m1F', inb_nI, ix_nI, inb_c, ix_c, nI_1, nI_pred, nI_m1, add_nIc, add_cnI, bd_v, reduceCtorEq, eqFcc, m1e0, m1e1, m1l0, m1g0, m2l0, m2g0, Int32.reduceLT, Int32.reduceLE, Int32.reduceAdd, Int32.reduceSub, Int32.reduceMul, eq_self, Bool.false_eq_true, t1]
        exact c_level hn hd hb l1 g3 hp' (fun M' m1 m2 => ih (nI p, M') ⟨p, hp, rfl, m1, fr_trans g4 m2⟩)
    · intro fu x hx
      obtain ⟨f, g1, g2, g3, g4⟩ := hx
      rw [hF] at g1
      injection g1 with g1
      subst g1
      rw [e_X1_findDays_34, g2]
      simp (disch := omega) only [↓reduceIte, ic_t, ic_f, not_true_eq_false, not_false_eq_true, ↓lt_v, rdR, rdE, rdS, leT, leTc, leTd, leF, leFc, leFd, ltT, ltTc, ltTd, ltF, ltFc, ltFd, eqT, eqTc, eqTd, eqF, eqFc, eqFd, m1T, m1F, m1T', m1F', inb_nI, ix_nI, inb_c, ix_c, nI_1, nI_pred, nI_m1, add_nIc, add_cnI, bd_v, reduceCtorEq, eqFcc, m1e0, m1e1, m1l0, m1g0, m2l0, m2g0, Int32.reduceLT, Int32.reduceLE, Int32.reduceAdd, Int32.reduceSub, Int32.reduceMul, eq_self, Bool.false_eq_true]
      exact ok_some ⟨full x.2 g3, g4⟩
def LawA (n : Nat) (M : Mem) : Prop := M.1 115 0 = nI n ∧ M.1 115 1 = nI (fac n) ∧ M.1 115 2 = nI (setsN n) ∧ M.1 115 3 = nI (mostN n) ∧ M.1 115 4 = nI (alikeN n) ∧ ∀ j, j < fac n → M.1 137 j = nI (dayN n j)
theorem lawA_P {n : Nat} {M : Mem} (hn : n ≤ 6) (h : LawA n M) : LawP M := Or.inr ⟨n, hn, h⟩
theorem c_prepare {M : Mem} {n : Nat} (hn : n ≤ 6) (hp : LawP M) : Ok (fX1_prepare (nI n) M) (fun M' => LawA n M' ∧ Fr PL M M') := by
  have hfl := fac_le hn
  obtain ⟨s20, _, _⟩ := sets_le hn
  rw [e_X1_prepare]
  by_cases c : nI n = M.1 115 0
  · rw [ic_pos c]
    rcases hp with hp | ⟨m, hm, h⟩
    · exfalso
      rw [hp] at c
      have : (-1 : Int32) < 0 := by decide
      rw [← c] at this
      exact nI_pos (by omega) this
    · have : n = m := by
        have h1 := h.1
        rw [← c] at h1
        exact (nI_eq (by omega) (by omega)).1 h1
      subst this
      exact ok_some ⟨h, fr_rfl⟩
  · rw [ic_neg c]
    simp (disch := omega) only [↓reduceIte, ic_t, ic_f, not_true_eq_false, not_false_eq_true, ↓lt_v, rdR, rdE, rdS, leT, leTc, leTd, leF, leFc, leFd, ltT, ltTc, ltTd, ltF, ltFc, ltFd, eqT, eqTc, eqTd, eqF, eqFc, eqFd, m1T, m1F, m1T', m1F', inb_nI, ix_nI, inb_c, ix_c, nI_1, nI_pred, nI_m1, add_nIc, add_cnI, bd_v, reduceCtorEq, eqFcc, m1e0, m1e1, m1l0, m1g0, m2l0, m2g0, Int32.reduceLT, Int32.reduceLE, Int32.reduceAdd, Int32.reduceSub, Int32.reduceMul, eq_self, Bool.false_eq_true]
    have e0 : (sI (sI M 115 0 (nI n)) 115 1 1).1 115 0 = nI n := by simp (disch := omega) only [↓reduceIte, ic_t, ic_f, not_true_eq_false, not_false_eq_true, ↓lt_v, rdR, rdE, rdS, leT, leTc, leTd, leF, leFc, leFd, ltT, ltTc, ltTd, ltF, ltFc, ltFd, eqT, eqTc, eqTd, eqF, eqFc, eqFd, m1T, m1F, m1T', m1F', inb_nI, ix_nI, inb_c, ix_c, nI_1, nI_pred, nI_m1, add_nIc, add_cnI, bd_v, reduceCtorEq, eqFcc, m1e0, m1e1, m1l0, m1g0, m2l0, m2g0, Int32.reduceLT, Int32.reduceLE, Int32.reduceAdd, Int32.reduceSub, Int32.reduceMul, eq_self, Bool.false_eq_true]
    have e1 : (sI (sI M 115 0 (nI n)) 115 1 1).1 115 1 = nI 1 := by simp (disch := omega) only [↓reduceIte, ic_t, ic_f, not_true_eq_false, not_false_eq_true, ↓lt_v, rdR, rdE, rdS, leT, leTc, leTd, leF, leFc, leFd, ltT, ltTc, ltTd, ltF, ltFc, ltFd, eqT, eqTc, eqTd, eqF, eqFc, eqFd, m1T, m1F, m1T', m1F', inb_nI, ix_nI, inb_c, ix_c, nI_1, nI_pred, nI_m1, add_nIc, add_cnI, bd_v, reduceCtorEq, eqFcc, m1e0, m1e1, m1l0, m1g0, m2l0, m2g0, Int32.reduceLT, Int32.reduceLE, Int32.reduceAdd, Int32.reduceSub, Int32.reduceMul, eq_self, Bool.false_eq_true]
    have f0 : Fr PL M (sI (sI M 115 0 (nI n)) 115 1 1) := fr_trans (fr_sI (by unfold PL; omega)) (fr_sI (by unfold PL; omega))
    generalize sI (sI M 115 0 (nI n)) 115 1 1 = M0 at e0 e1 f0 ⊢
    have fin : ∀ s : Mem, s.1 115 0 = nI n → s.1 115 1 = nI (fac n) → Fr PL M s → Ok ((fX1_findSets s).bind fun q9 => (fX1_findDays q9).bind fun q11 => some q11) (fun M' => LawA n M' ∧ Fr PL M M') := by
      intro s h0 h1 hf
      refine ok_call (c_findSets hn h0 h1) (fun M1 g => ?_)
      refine ok_call (c_findDays hn g.1) (fun M2 w => ok_some ⟨?_, fr_trans hf (fr_trans g.2 (fr_sub w.2 (fun a ha => by unfold PF at ha; unfold PL; omega)))⟩)
      have l2 := lwC_fr g.1 s20 (fun a h1 h2 => w.2.1 a (by unfold PF; omega))
      exact ⟨l2.1, l2.2.1, l2.2.2.1, l2.2.2.2.1, l2.2.2.2.2.1, w.1⟩
    by_cases c2 : n < 2
    · have : fac n = 1 := by
        rcases (show n = 0 ∨ n = 1 by omega) with e | e <;> subst e <;> rfl
      have hFU : 2000 < FU := FU_big
      generalize FU = fu0 at hFU ⊢
      obtain ⟨fu0, rfl⟩ : ∃ m, fu0 = m + 1 := ⟨fu0 - 1, by omega⟩
      rw [e_X1_prepare_31]
      simp (disch := omega) only [↓reduceIte, ic_t, ic_f, not_true_eq_false, not_false_eq_true, ↓lt_v, rdR, rdE, rdS, leT, leTc, leTd, leF, leFc, leFd, ltT, ltTc, ltTd, ltF, ltFc, ltFd, eqT, eqTc, eqTd, eqF, eqFc, eqFd, m1T, m1F, m1T', m1F', inb_nI, ix_nI, inb_c, ix_c, nI_1, nI_pred, nI_m1, add_nIc, add_cnI, bd_v, reduceCtorEq, eqFcc, m1e0, m1e1, m1l0, m1g0, m2l0, m2g0, Int32.reduceLT, Int32.reduceLE, Int32.reduceAdd, Int32.reduceSub, Int32.reduceMul, eq_self, Bool.false_eq_true]
      exact fin M0 e0 (by rw [e1, this]) f0
    · have hFU : 2000 < FU := FU_big
      generalize FU = fu0 at hFU ⊢
      refine ok_loop n (fun fu k s => fX1_prepare_31 fu (nI n) (nI (k + 1)) s) (fun k s => s.1 115 0 = nI n ∧ s.1 115 1 = nI (fac k) ∧ Fr PL M s) ?_ ?_ fu0 1 M0 (by omega) (by omega) ⟨e0, e1, f0⟩
      · intro fu k s hk hs ih
        obtain ⟨b0, b1, b2⟩ := hs
        rw [e_X1_prepare_31]
        have em : nI (fac k) * nI (k + 1) = nI (fac (k + 1)) := by rw [pk_mul, Nat.mul_comm]; rfl
        simp (disch := omega) only [↓reduceIte, ic_t, ic_f, not_true_eq_false, not_false_eq_true, ↓lt_v, rdR, rdE, rdS, leT, leTc, leTd, leF, leFc, leFd, ltT, ltTc, ltTd, ltF, ltFc, ltFd, eqT, eqTc, eqTd, eqF, eqFc, eqFd, m1T, m1F, m1T', m1F', inb_nI, ix_nI, inb_c, ix_c, nI_1, nI_pred, nI_m1, add_nIc, add_cnI, bd_v, reduceCtorEq, eqFcc, m1e0, m1e1, m1l0, m1g0, m2l0, m2g0, Int32.reduceLT, Int32.reduceLE, Int32.reduceAdd, Int32.reduceSub, Int32.reduceMul, eq_self, Bool.false_eq_true, b1, em]
        exact ih _ ⟨by simp (disch := omega) only [↓reduceIte, ic_t, ic_f, not_true_eq_false, not_false_eq_true, ↓lt_v, rdR, rdE, rdS, leT, leTc, leTd, leF, leFc, leFd, ltT, ltTc, ltTd, ltF, ltFc, ltFd, eqT, eqTc, eqTd, eqF, eqFc, eqFd, m1T, m1F, m1T', m1F', inb_nI, ix_nI, inb_c, ix_c, nI_1, nI_pred, nI_m1, add_nIc, add_cnI, bd_v, reduceCtorEq, eqFcc, m1e0, m1e1, m1l0, m1g0, m2l0, m2g0, Int32.reduceLT, Int32.reduceLE, Int32.reduceAdd, Int32.reduceSub, Int32.reduceMul, eq_self, Bool.false_eq_true]; exact b0, by simp (disch := omega) only [↓reduceIte, ic_t, ic_f, not_true_eq_false, not_false_eq_true, ↓lt_v, rdR, rdE, rdS, leT, leTc, leTd, leF, leFc, leFd, ltT, ltTc, ltTd, ltF, ltFc, ltFd, eqT, eqTc, eqTd, eqF, eqFc, eqFd, m1T, m1F, m1T', m1F', inb_nI, ix_nI, inb_c, ix_c, nI_1, nI_pred, nI_m1, add_nIc, add_cnI, bd_v, reduceCtorEq, eqFcc, m1e0, m1e1, m1l0, m1g0, m2l0, m2g0, Int32.reduceLT, Int32.reduceLE, Int32.reduceAdd, Int32.reduceSub, Int32.reduceMul, eq_self, Bool.false_eq_true], fr_trans b2 (fr_sI (by unfold PL; omega))⟩
      · intro fu s hs
        obtain ⟨b0, b1, b2⟩ := hs
        rw [e_X1_prepare_31]
        simp (disch := omega) only [↓reduceIte, ic_t, ic_f, not_true_eq_false, not_false_eq_true, ↓lt_v, rdR, rdE, rdS, leT, leTc, leTd, leF, leFc, leFd, ltT, ltTc, ltTd, ltF, ltFc, ltFd, eqT, eqTc, eqTd, eqF, eqFc, eqFd, m1T, m1F, m1T', m1F', inb_nI, ix_nI, inb_c, ix_c, nI_1, nI_pred, nI_m1, add_nIc, add_cnI, bd_v, reduceCtorEq, eqFcc, m1e0, m1e1, m1l0, m1g0, m2l0, m2g0, Int32.reduceLT, Int32.reduceLE, Int32.reduceAdd, Int32.reduceSub, Int32.reduceMul, eq_self, Bool.false_eq_true]
        exact fin s b0 b1 b2
