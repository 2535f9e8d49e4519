/-! PURE: class: findDays, prepare -/
theorem chk3_n {n : Nat} (hn : n ≤ 6) {j : Nat} (hj : j < fac n) : (∀ k, k < n → up n j k = un n j k) ∧ cq n (cp n j) = j ∧ rqq n (rp n j) = j ∧ rp n (rqq n j) = j ∧ rp n j < fac n ∧ rqq n j < fac n := by
  have h := allB_i (fac n) (allB_i 7 chk3_ok n (by omega)) j hj
  simp only [Bool.and_eq_true, decide_eq_true_eq, beq_iff_eq] at h
  exact ⟨fun k hk => eq_of_beq (allB_i n h.1.1.1.1.1 k hk), h.1.1.1.1.2, h.1.1.1.2, h.1.1.2, h.1.2, h.2⟩
theorem sN_lt {n : Nat} (hn : n ≤ 6) {s : Nat} (hs : s < setsN n) : sN n s < fac n := by
  have h := allB_i 7 chk4_ok n (by omega)
  unfold chk4 at h
  rw [Bool.and_eq_true] at h
  exact of_decide_eq_true (allB_i _ h.1 s hs)
theorem prm_comp {n : Nat} {o p : Nat → Nat} (ho : Prm n o) (hp : Prm n p) : Prm n (fun k => o (p k)) := ⟨fun i hi => ho.1 _ (hp.1 i hi), fun i j hi hj e => hp.2 i j hi hj (ho.2 _ _ (hp.1 i hi) (hp.1 j hj) e)⟩
theorem cN_un {n : Nat} (hn : n ≤ 6) {j s : Nat} (hj : j < fac n) (hs : s < setsN n) : cN n j s < fac n ∧ (∀ k, k < n → un n (cN n j s) k = un n j (un n (sN n s) k)) ∧ lh n (fun k => un n j (un n (sN n s) k)) n = cN n j s := by
  have h := allB_i 7 chk4_ok n (by omega)
  unfold chk4 at h
  rw [Bool.and_eq_true] at h
  have h := allB_i _ (allB_i _ h.2 j hj) s hs
  rw [Bool.and_eq_true] at h
  have hc := of_decide_eq_true h.1
  have hsn := sN_lt hn hs
  have hu : ∀ k, k < n → un n (cN n j s) k = un n j (un n (sN n s) k) := fun k hk => by
    have e := eq_of_beq (allB_i n h.2 k hk)
    have l := (chk1_n hn hsn).1.1 k hk
    rw [(chk3_n hn hc).1 k hk, (chk3_n hn hsn).1 k hk, (chk3_n hn hj).1 _ l] at e
    exact e
  refine ⟨hc, hu, ?_⟩
  rw [← lh_congr hu n (Nat.le_refl _)]
  exact (chk1_n hn hc).2.1
theorem sets_le {n : Nat} (hn : n ≤ 6) : setsN n ≤ 20 ∧ mostN n ≤ 3 ∧ alikeN n ≤ 5 := by
  have h : ∀ n, n < 7 → setsN n ≤ 20 ∧ mostN n ≤ 3 ∧ alikeN n ≤ 5 := by decide
  exact h n (by omega)
theorem dayN_lt {n j : Nat} : dayN n j < 8 := by
  have : dayN n j ≤ 7 := Nat.and_le_right
  omega
theorem cp_lt {n j : Nat} : cp n j < 1024 := by
  have : cp n j ≤ 1023 := Nat.and_le_right
  omega
def DyC (n f : Nat) (M : Mem) : Prop := ∀ t, t < fac n → M.1 137 t = if cp n t < f then nI (dayN n t) else -1
theorem spr1_b {n d j s f g : Nat} (h : spr1 n d j s f = some g) (hf : f ≤ 1024) : f ≤ g ∧ g ≤ 1024 := by
  have := cp_lt (n := n) (j := cN n j s)
  unfold spr1 at h
  split at h
  · injection h with h; omega
  · split at h
    · injection h with h; omega
    · cases h
theorem spr_b {n d j f : Nat} (hf : f ≤ 1024) : ∀ s g, spr n d j f s = some g → f ≤ g ∧ g ≤ 1024
  | 0, g, h => by injection h with h; omega
  | s + 1, g, h => by
    have h : (spr n d j f s).bind (spr1 n d j s) = some g := h
    cases e : spr n d j f s with
    | none => rw [e] at h; cases h
    | some p =>
      rw [e] at h
      have := spr_b hf s p e
      have := spr1_b h (by omega)
      omega
theorem spr_some {n d j f : Nat} : ∀ m k q, spr n d j f (k + m) = some q → ∃ p, spr n d j f k = some p
  | 0, _, q, h => ⟨q, h⟩
  | m + 1, k, q, h => by
    have h : (spr n d j f (k + m)).bind (spr1 n d j (k + m)) = some q := h
    cases e : spr n d j f (k + m) with
    | none => rw [e] at h; cases h
    | some p => exact spr_some m k p e
abbrev LW (n : Nat) : Nat × Nat × Nat := (setsN n, mostN n, alikeN n)
theorem c_spread {M : Mem} {n d j f f' : Nat} (hn : n ≤ 6) (hd : d ≤ 6) (hj : j < fac n) (hf : f ≤ 1024) (hl : LwC n (LW n) M) (ho : ∀ k, k < n → M.1 139 k = nI (un n j k)) (hD : DyC n f M) (hs : spr n d j f (setsN n) = some f') : Ok (fX1_spreadFrom (nI d) M) (fun q => q.1 = nI (f' - f) ∧ DyC n f' q.2 ∧ Fr (fun a => a = 137 ∨ a = 140) M q.2) := by
  have hfl := fac_le hn
  obtain ⟨s20, _, _⟩ := sets_le hn
  have hpj := (chk1_n hn hj).1
  rw [e_X1_spreadFrom]
  have hFU : 2000 < FU := FU_big
  generalize FU = fu0 at hFU ⊢
  refine ok_loop (setsN n) (fun fu s (x : Int32 × Mem) => fX1_spreadFrom_4 fu (nI d) x.1 (nI s) x.2) (fun s x => ∃ g, spr n d j f s = some g ∧ x.1 = nI (g - f) ∧ DyC n g x.2 ∧ Fr (fun a => a = 137 ∨ a = 140) M x.2) ?_ ?_ fu0 0 (0, M) (by omega) (by omega) ⟨f, rfl, by show (0 : Int32) = nI (f - f); rw [Nat.sub_self]; rfl, hD, fr_rfl⟩
  · intro fu s x hsl hx ih
    obtain ⟨g, g1, g2, g3, g4⟩ := hx
    obtain ⟨p, hp⟩ := spr_some (setsN n - (s + 1)) (s + 1) _ (by rw [show s + 1 + (setsN n - (s + 1)) = setsN n by omega]; exact hs)
    have hp' : spr1 n d j s g = some p := by
      have : (spr n d j f s).bind (spr1 n d j s) = some p := hp
      rw [g1] at this
      exact this
    obtain ⟨gb1, gb2⟩ := spr_b hf s g g1
    have hsn := sN_lt hn hsl
    have hps := (chk1_n hn hsn).1
    obtain ⟨cn1, cn2, cn3⟩ := cN_un hn hj hsl
    have l1 : LwC n (LW n) x.2 := lwC_fr hl s20 (fun a _ _ => g4.1 a (by omega))
    have o1 : ∀ k, k < n → x.2.1 139 k = nI (un n j k) := fun k hk => by rw [g4.1 139 (by omega)]; exact ho k hk
    have e2 : x.2.1 115 2 = nI (setsN n) := l1.2.2.1
    rw [e_X1_spreadFrom_4, g2]
    simp (disch := omega) only [↓reduceIte, ic_t, ic_f, not_true_eq_false, not_false_eq_true, ↓lt_v, rdR, rdE, rdS, leT, leTc, leTd, leF, leFc, leFd, ltT, ltTc, ltTd, ltF, ltFc, ltFd, eqT, eqTc, eqTd, eqF, eqFc, eqFd, m1T, m1F, m1T', m1F', inb_nI, ix_nI, inb_c, ix_c, nI_1, nI_pred, nI_m1, add_nIc, add_cnI, bd_v, reduceCtorEq, eqFcc, m1e0, m1e1, m1l0, m1g0, m2l0, m2g0, Int32.reduceLT, Int32.reduceLE, Int32.reduceAdd, Int32.reduceSub, Int32.reduceMul, eq_self, Bool.false_eq_true, e2]
    have hFU2 : 2000 < FU := FU_big
    generalize FU = fu2 at hFU2 ⊢
    refine ok_loop n (fun fu2 k y => fX1_spreadFrom_15 (fX1_spreadFrom_4 fu) fu2 (nI d) (nI (g - f)) (nI s) (nI k) y) (fun k y => (∀ i, i < k → y.1 140 i = nI (un n j (un n (sN n s) i))) ∧ Fr (fun a => a = 140) x.2 y) ?_ ?_ fu2 0 x.2 (by omega) (by omega) ⟨fun i hi => absurd hi (Nat.not_lt_zero _), fr_rfl⟩
    · intro fu2 k y hk hy ih2
      obtain ⟨y1, y2⟩ := hy
      have t0 : y.1 115 0 = nI n := by rw [y2.1 115 (by omega)]; exact l1.1
      have t1 : y.1 (117 + s) k = nI (un n (sN n s) k) := by rw [y2.1 (117 + s) (by omega)]; exact l1.2.2.2.2.2 s hsl k hk
      have hu := hps.1 k hk
      have t2 : y.1 139 (un n (sN n s) k) = nI (un n j (un n (sN n s) k)) := by rw [y2.1 139 (by omega)]; exact o1 _ hu
      rw [e_X1_spreadFrom_15]
      simp (disch := omega) only [↓reduceIte, ic_t, ic_f, not_true_eq_false, not_false_eq_true, ↓lt_v, rdR, rdE, rdS, leT, leTc, leTd, leF, leFc, leFd, ltT, ltTc, ltTd, ltF, ltFc, ltFd, eqT, eqTc, eqTd, eqF, eqFc, eqFd, m1T, m1F, m1T', m1F', inb_nI, ix_nI, inb_c, ix_c, nI_1, nI_pred, nI_m1, add_nIc, add_cnI, bd_v, reduceCtorEq, eqFcc, m1e0, m1e1, m1l0, m1g0, m2l0, m2g0, Int32.reduceLT, Int32.reduceLE, Int32.reduceAdd, Int32.reduceSub, Int32.reduceMul, eq_self, Bool.false_eq_true, t0, t1, t2]
      refine ih2 _ ⟨fun i hi => ?_, fr_trans y2 (fr_sI rfl)⟩
      by_cases e : i = k
      · subst e; simp (disch := omega) only [↓reduceIte, ic_t, ic_f, not_true_eq_false, not_false_eq_true, ↓lt_v, rdR, rdE, rdS, leT, leTc, leTd, leF, leFc, leFd, ltT, ltTc, ltTd, ltF, ltFc, ltFd, eqT, eqTc, eqTd, eqF, eqFc, eqFd, m1T, m1F, m1T', m1F', inb_nI, ix_nI, inb_c, ix_c, nI_1, nI_pred, nI_m1, add_nIc, add_cnI, bd_v, reduceCtorEq, eqFcc, m1e0, m1e1, m1l0, m1g0, m2l0, m2g0, Int32.reduceLT, Int32.reduceLE, Int32.reduceAdd, Int32.reduceSub, Int32.reduceMul, eq_self, Bool.false_eq_true]
      · simp (disch := omega) only [↓reduceIte, ic_t, ic_f, not_true_eq_false, not_false_eq_true, ↓lt_v, rdR, rdE, rdS, leT, leTc, leTd, leF, leFc, leFd, ltT, ltTc, ltTd, ltF, ltFc, ltFd, eqT, eqTc, eqTd, eqF, eqFc, eqFd, m1T, m1F, m1T', m1F', inb_nI, ix_nI, inb_c, ix_c, nI_1, nI_pred, nI_m1, add_nIc, add_cnI, bd_v, reduceCtorEq, eqFcc, m1e0, m1e1, m1l0, m1g0, m2l0, m2g0, Int32.reduceLT, Int32.reduceLE, Int32.reduceAdd, Int32.reduceSub, Int32.reduceMul, eq_self, Bool.false_eq_true]; exact y1 i (by omega)
    · intro fu2 y hy
      obtain ⟨y1, y2⟩ := hy
      have t0 : y.1 115 0 = nI n := by rw [y2.1 115 (by omega)]; exact l1.1
      have t1 : y.1 115 1 = nI (fac n) := by rw [y2.1 115 (by omega)]; exact l1.2.1
      have hnum := c_numberOf (M := y) (a := 140) hn (prm_comp hpj hps) ln140 t0 t1 y1
      rw [cn3] at hnum
      have hm : y.1 137 (cN n j s) = if cp n (cN n j s) < g then nI (dayN n (cN n j s)) else -1 := by rw [y2.1 137 (by omega)]; exact g3 _ cn1
      have dy : DyC n g y := fun t ht => by rw [y2.1 137 (by omega)]; exact g3 t ht
      have fy : Fr (fun a => a = 137 ∨ a = 140) M y := fr_trans g4 (fr_sub y2 (fun a ha => by omega))
      rw [e_X1_spreadFrom_15]
      simp (disch := omega) only [↓reduceIte, ic_t, ic_f, not_true_eq_false, not_false_eq_true, ↓lt_v, rdR, rdE, rdS, leT, leTc, leTd, leF, leFc, leFd, ltT, ltTc, ltTd, ltF, ltFc, ltFd, eqT, eqTc, eqTd, eqF, eqFc, eqFd, m1T, m1F, m1T', m1F', inb_nI, ix_nI, inb_c, ix_c, nI_1, nI_pred, nI_m1, add_nIc, add_cnI, bd_v, reduceCtorEq, eqFcc, m1e0, m1e1, m1l0, m1g0, m2l0, m2g0, Int32.reduceLT, Int32.reduceLE, Int32.reduceAdd, Int32.reduceSub, Int32.reduceMul, eq_self, Bool.false_eq_true, t0, hnum]
      rw [hm]
      unfold spr1 at hp'
      by_cases c1 : cp n (cN n j s) < g
      · rw [if_pos c1] at hp' ⊢
        injection hp' with hp'
        subst hp'
        have := dayN_lt (n := n) (j := cN n j s)
        simp (disch := omega) only [↓reduceIte, ic_t, ic_f, not_true_eq_false, not_false_eq_true, ↓lt_v, rdR, rdE, rdS, leT, leTc, leTd, leF, leFc, leFd, ltT, ltTc, ltTd, ltF, ltFc, ltFd, eqT, eqTc, eqTd, eqF, eqFc, eqFd, m1T, m1F, m1T', m1F', inb_nI, ix_nI, inb_c, ix_c, nI_1, nI_pred, nI_m1, add_nIc, add_cnI, bd_v, reduceCtorEq, eqFcc, m1e0, m1e1, m1l0, m1g0, m2l0, m2g0, Int32.reduceLT, Int32.reduceLE, Int32.reduceAdd, Int32.reduceSub, Int32.reduceMul, eq_self, Bool.false_eq_true]
        exact ih (nI (g - f), y) ⟨g, hp, rfl, dy, fy⟩
      · rw [if_neg c1] at hp' ⊢
        by_cases c2 : cp n (cN n j s) = g ∧ dayN n (cN n j s) = d + 1
        · rw [if_pos c2] at hp'
          injection hp' with hp'
          simp (disch := omega) only [↓reduceIte, ic_t, ic_f, not_true_eq_false, not_false_eq_true, ↓lt_v, rdR, rdE, rdS, leT, leTc, leTd, leF, leFc, leFd, ltT, ltTc, ltTd, ltF, ltFc, ltFd, eqT, eqTc, eqTd, eqF, eqFc, eqFd, m1T, m1F, m1T', m1F', inb_nI, ix_nI, inb_c, ix_c, nI_1, nI_pred, nI_m1, add_nIc, add_cnI, bd_v, reduceCtorEq, eqFcc, m1e0, m1e1, m1l0, m1g0, m2l0, m2g0, Int32.reduceLT, Int32.reduceLE, Int32.reduceAdd, Int32.reduceSub, Int32.reduceMul, eq_self, Bool.false_eq_true]
          refine ih (nI (g - f + 1), sI y 137 (cN n j s) (nI (d + 1))) ⟨g + 1, by rw [hp, hp'], by rw [show g + 1 - f = g - f + 1 by omega], fun t ht => ?_, fr_trans fy (fr_sI (by omega))⟩
          by_cases e : t = cN n j s
          · subst e
            rw [if_pos (by omega), c2.2]
            simp (disch := omega) only [↓reduceIte, ic_t, ic_f, not_true_eq_false, not_false_eq_true, ↓lt_v, rdR, rdE, rdS, leT, leTc, leTd, leF, leFc, leFd, ltT, ltTc, ltTd, ltF, ltFc, ltFd, eqT, eqTc, eqTd, eqF, eqFc, eqFd, m1T, m1F, m1T', m1F', inb_nI, ix_nI, inb_c, ix_c, nI_1, nI_pred, nI_m1, add_nIc, add_cnI, bd_v, reduceCtorEq, eqFcc, m1e0, m1e1, m1l0, m1g0, m2l0, m2g0, Int32.reduceLT, Int32.reduceLE, Int32.reduceAdd, Int32.reduceSub, Int32.reduceMul, eq_self, Bool.false_eq_true]
          · have hne : cp n t ≠ g := fun q => by
              have h1 := (chk3_n hn ht).2.1
              have h2 := (chk3_n hn cn1).2.1
              rw [q] at h1
              rw [c2.1] at h2
              exact e (h1.symm.trans h2)
            simp (disch := omega) only [↓reduceIte, ic_t, ic_f, not_true_eq_false, not_false_eq_true, ↓lt_v, rdR, rdE, rdS, leT, leTc, leTd, leF, leFc, leFd, ltT, ltTc, ltTd, ltF, ltFc, ltFd, eqT, eqTc, eqTd, eqF, eqFc, eqFd, m1T, m1F, m1T', m1F', inb_nI, ix_nI, inb_c, ix_c, nI_1, nI_pred, nI_m1, add_nIc, add_cnI, bd_v, reduceCtorEq, eqFcc, m1e0, m1e1, m1l0, m1g0, m2l0, m2g0, Int32.reduceLT, Int32.reduceLE, Int32.reduceAdd, Int32.reduceSub, Int32.reduceMul, eq_self, Bool.false_eq_true]
            rw [dy t ht]
            by_cases c3 : cp n t < g
            · rw [if_pos c3, if_pos (by omega)]
            · rw [if_neg c3, if_neg (by omega)]
        · rw [if_neg c2] at hp'; cases hp'
  · intro fu x hx
    obtain ⟨g, g1, g2, g3, g4⟩ := hx
    rw [hs] at g1
    injection g1 with g1
    subst g1
    have e2 : x.2.1 115 2 = nI (setsN n) := by rw [g4.1 115 (by omega)]; exact hl.2.2.1
    rw [e_X1_spreadFrom_4, g2]
    simp (disch := omega) only [↓reduceIte, ic_t, ic_f, not_true_eq_false, not_false_eq_true, ↓lt_v, rdR, rdE, rdS, leT, leTc, leTd, leF, leFc, leFd, ltT, ltTc, ltTd, ltF, ltFc, ltFd, eqT, eqTc, eqTd, eqF, eqFc, eqFd, m1T, m1F, m1T', m1F', inb_nI, ix_nI, inb_c, ix_c, nI_1, nI_pred, nI_m1, add_nIc, add_cnI, bd_v, reduceCtorEq, eqFcc, m1e0, m1e1, m1l0, m1g0, m2l0, m2g0, Int32.reduceLT, Int32.reduceLE, Int32.reduceAdd, Int32.reduceSub, Int32.reduceMul, eq_self, Bool.false_eq_true, e2]
    exact ok_some ⟨rfl, g3, g4⟩
