/-! PURE: the class's pull, begin, run -/
def mv (F : (Nat → Int32) → Int32) (w : Nat → Int32) (o : Nat → Nat) (n t : Nat) (L : Nat → Int32) (G : Nat → Bool) : Nat → Int32 := fun k => if G k = true then L k + ftg F w o n t L G k else L k
abbrev RS : Type := (Nat → Int32) × TS
def stp (F : (Nat → Int32) → Int32) (w : Nat → Int32) (o : Nat → Nat) (n t : Nat) (s : RS) : RS := (mv F w o n t s.1 s.2.1, tl o (mv F w o n t s.1 s.2.1) t (n - 1) s.2)
def rs0 (w : Nat → Int32) : RS := (fun k => (-(w 18)) * nI k, fun _ => true, 0, fun _ => 0, fun _ => 0, fun _ => 0)
def rs (F : (Nat → Int32) → Int32) (w : Nat → Int32) (o : Nat → Nat) (n : Nat) : Nat → RS
  | 0 => rs0 w
  | t + 1 => stp F w o n t (rs F w o n t)
theorem cnt_all : ∀ n, cnt (fun _ => true) n = n
  | 0 => rfl
  | n + 1 => by unfold cnt; rw [cnt_all n]; simp
theorem ti_rs {F : (Nat → Int32) → Int32} {w : Nat → Int32} {o : Nat → Nat} {n : Nat} : ∀ t, Ti n (rs F w o n t).2
  | 0 => by show 2 * 0 + cnt (fun _ => true) n = n; rw [cnt_all]; omega
  | t + 1 => ti_tl (ti_rs t) (n - 1) (by omega)
theorem tst_id {o : Nat → Nat} {L : Nat → Int32} {t n k : Nat} {T : TS} (h : Ti n T) (h1 : n - 2 * T.2.1 ≤ 1) (hk : k < n) : tst o L t k T = T := by
  unfold tst
  rw [if_neg]
  intro c
  have := ti_two h hk c.1 c.2.1
  omega
theorem tl_id {o : Nat → Nat} {L : Nat → Int32} {t n : Nat} {T : TS} (h : Ti n T) (h1 : n - 2 * T.2.1 ≤ 1) : ∀ j, j < n ∨ j = 0 → tl o L t j T = T
  | 0, _ => rfl
  | j + 1, hj => by unfold tl; rw [tl_id h h1 j (by omega)]; exact tst_id h h1 (by omega)
theorem rs_stay {F : (Nat → Int32) → Int32} {w : Nat → Int32} {o : Nat → Nat} {n t : Nat} (h : n - 2 * (rs F w o n t).2.2.1 ≤ 1) : ∀ d, (rs F w o n (t + d)).2 = (rs F w o n t).2
  | 0 => rfl
  | d + 1 => by
    show tl o _ (t + d) (n - 1) (rs F w o n (t + d)).2 = _
    rw [rs_stay h d]
    exact tl_id (ti_rs t) h (n - 1) (by omega)
theorem rcC_ext {n : Nat} {L L' : Nat → Int32} {T : TS} {M : Mem} (h : RcC n L T M) (hl : ∀ k, k < n → L k = L' k) : RcC n L' T M := ⟨h.1, fun k hk => (h.2.1 k hk).trans (hl k hk), h.2.2⟩
theorem rcC_fr {n : Nat} {L : Nat → Int32} {T : TS} {M M' : Mem} {P : Nat → Prop} (h : RcC n L T M) (hf : Fr P M M') (hp : ∀ a, P a → ¬ (108 ≤ a ∧ a ≤ 114 ∧ a ≠ 111)) : RcC n L T M' := by
  have e : ∀ a, 108 ≤ a → a ≤ 114 → a ≠ 111 → M'.1 a = M.1 a := fun a h1 h2 h3 => hf.1 a fun q => hp a q ⟨h1, h2, h3⟩
  unfold RcC
  rw [e 108 (by omega) (by omega) (by omega), e 109 (by omega) (by omega) (by omega), e 110 (by omega) (by omega) (by omega), e 112 (by omega) (by omega) (by omega), e 113 (by omega) (by omega) (by omega), e 114 (by omega) (by omega) (by omega)]
  exact h
theorem c_move {M : Mem} {n r t : Nat} {o : Nat → Nat} {L ft : Nat → Int32} {T : TS} (hn : n ≤ 6) (ht : t < 1000) (hr : r + 4 < 108 ∨ 114 < r) (hc : RcC n L T M) (hi : Ti n T) (ho : ∀ k, k < n → M.1 (r + 4) k = nI (o k)) (hft : ∀ k, k < n → T.1 k = true → M.1 111 k = ft k) {L' : Nat → Int32} (hL : ∀ k, k < n → L' k = if T.1 k = true then L k + ft k else L k) :
    Ok (fX3_pull_17 FU r (nI t) 0 M) (fun M' => RcC n L' (tl o L' t (n - 1) T) M' ∧ Fr PRc M M') := by
  have tail := fun (s : Mem) (h1 : RcC n L' T s) (h2 : ∀ k, k < n → s.1 (r + 4) k = nI (o k)) => c_touches (t := t) hn ht hr h1 hi h2
  have hFU : 2000 < FU := FU_big
  generalize FU = fu0 at hFU ⊢
  refine ok_loop n (fun fu k s => fX3_pull_17 fu r (nI t) (nI k) s) (fun k s => RcC n (fun j => if j < k then L' j else L j) T s ∧ Fr PRc M s) ?_ ?_ fu0 0 M (by omega) (by omega) ⟨rcC_ext hc (fun k hk => by simp), fr_rfl⟩
  · intro fu k s hk hs ih
    obtain ⟨hs, hf⟩ := hs
    have hs' := hs
    obtain ⟨c1, c2, c3, c4, c5, c6⟩ := hs
    have h111 : s.1 111 k = M.1 111 k := by rw [hf.1 111 (by unfold PRc; omega)]
    have hstep : ∀ v, v = L' k → Ok (fX3_pull_17 fu r (nI t) (nI (k + 1)) (sI s 109 k v)) (fun M' => RcC n L' (tl o L' t (n - 1) T) M' ∧ Fr PRc M M') := by
      intro v hv
      refine ih _ ⟨⟨?_, ?_, ?_, ?_, ?_, ?_⟩, fr_trans hf (fr_sI (by unfold PRc; omega))⟩
      · simp (disch := omega) only [↓reduceIte, ic_t, ic_f, not_true_eq_false, not_false_eq_true, ↓lt_v, rdR, rdE, rdS, leT, leTc, leTd, leF, leFc, leFd, ltT, ltTc, ltTd, ltF, ltFc, ltFd, eqT, eqTc, eqTd, eqF, eqFc, eqFd, m1T, m1F, m1T', m1F', inb_nI, ix_nI, inb_c, ix_c, nI_1, nI_pred, nI_m1, add_nIc, add_cnI, bd_v, reduceCtorEq, eqFcc, m1e0, m1e1, m1l0, m1g0, m2l0, m2g0, Int32.reduceLT, Int32.reduceLE, Int32.reduceAdd, Int32.reduceSub, Int32.reduceMul, eq_self, Bool.false_eq_true, c1]
      · intro j hj
        by_cases ej : j = k
        · subst ej
          simp (disch := omega) only [↓reduceIte, ic_t, ic_f, not_true_eq_false, not_false_eq_true, ↓lt_v, rdR, rdE, rdS, leT, leTc, leTd, leF, leFc, leFd, ltT, ltTc, ltTd, ltF, ltFc, ltFd, eqT, eqTc, eqTd, eqF, eqFc, eqFd, m1T, m1F, m1T', m1F', inb_nI, ix_nI, inb_c, ix_c, nI_1, nI_pred, nI_m1, add_nIc, add_cnI, bd_v, reduceCtorEq, eqFcc, m1e0, m1e1, m1l0, m1g0, m2l0, m2g0, Int32.reduceLT, Int32.reduceLE, Int32.reduceAdd, Int32.reduceSub, Int32.reduceMul, eq_self, Bool.false_eq_true, hv]; simp
        · simp (disch := omega) only [↓reduceIte, ic_t, ic_f, not_true_eq_false, not_false_eq_true, ↓lt_v, rdR, rdE, rdS, leT, leTc, leTd, leF, leFc, leFd, ltT, ltTc, ltTd, ltF, ltFc, ltFd, eqT, eqTc, eqTd, eqF, eqFc, eqFd, m1T, m1F, m1T', m1F', inb_nI, ix_nI, inb_c, ix_c, nI_1, nI_pred, nI_m1, add_nIc, add_cnI, bd_v, reduceCtorEq, eqFcc, m1e0, m1e1, m1l0, m1g0, m2l0, m2g0, Int32.reduceLT, Int32.reduceLE, Int32.reduceAdd, Int32.reduceSub, Int32.reduceMul, eq_self, Bool.false_eq_true, c2]
          have : (j < k + 1) = (j < k) := propext (by omega)
          simp only [this]
      · intro j hj
        simp (disch := omega) only [↓reduceIte, ic_t, ic_f, not_true_eq_false, not_false_eq_true, ↓lt_v, rdR, rdE, rdS, leT, leTc, leTd, leF, leFc, leFd, ltT, ltTc, ltTd, ltF, ltFc, ltFd, eqT, eqTc, eqTd, eqF, eqFc, eqFd, m1T, m1F, m1T', m1F', inb_nI, ix_nI, inb_c, ix_c, nI_1, nI_pred, nI_m1, add_nIc, add_cnI, bd_v, reduceCtorEq, eqFcc, m1e0, m1e1, m1l0, m1g0, m2l0, m2g0, Int32.reduceLT, Int32.reduceLE, Int32.reduceAdd, Int32.reduceSub, Int32.reduceMul, eq_self, Bool.false_eq_true, c3]
      · simp (disch := omega) only [↓reduceIte, ic_t, ic_f, not_true_eq_false, not_false_eq_true, ↓lt_v, rdR, rdE, rdS, leT, leTc, leTd, leF, leFc, leFd, ltT, ltTc, ltTd, ltF, ltFc, ltFd, eqT, eqTc, eqTd, eqF, eqFc, eqFd, m1T, m1F, m1T', m1F', inb_nI, ix_nI, inb_c, ix_c, nI_1, nI_pred, nI_m1, add_nIc, add_cnI, bd_v, reduceCtorEq, eqFcc, m1e0, m1e1, m1l0, m1g0, m2l0, m2g0, Int32.reduceLT, Int32.reduceLE, Int32.reduceAdd, Int32.reduceSub, Int32.reduceMul, eq_self, Bool.false_eq_true, c4]
      · simp (disch := omega) only [↓reduceIte, ic_t, ic_f, not_true_eq_false, not_false_eq_true, ↓lt_v, rdR, rdE, rdS, leT, leTc, leTd, leF, leFc, leFd, ltT, ltTc, ltTd, ltF, ltFc, ltFd, eqT, eqTc, eqTd, eqF, eqFc, eqFd, m1T, m1F, m1T', m1F', inb_nI, ix_nI, inb_c, ix_c, nI_1, nI_pred, nI_m1, add_nIc, add_cnI, bd_v, reduceCtorEq, eqFcc, m1e0, m1e1, m1l0, m1g0, m2l0, m2g0, Int32.reduceLT, Int32.reduceLE, Int32.reduceAdd, Int32.reduceSub, Int32.reduceMul, eq_self, Bool.false_eq_true, c5]
      · intro i hi
        simp (disch := omega) only [↓reduceIte, ic_t, ic_f, not_true_eq_false, not_false_eq_true, ↓lt_v, rdR, rdE, rdS, leT, leTc, leTd, leF, leFc, leFd, ltT, ltTc, ltTd, ltF, ltFc, ltFd, eqT, eqTc, eqTd, eqF, eqFc, eqFd, m1T, m1F, m1T', m1F', inb_nI, ix_nI, inb_c, ix_c, nI_1, nI_pred, nI_m1, add_nIc, add_cnI, bd_v, reduceCtorEq, eqFcc, m1e0, m1e1, m1l0, m1g0, m2l0, m2g0, Int32.reduceLT, Int32.reduceLE, Int32.reduceAdd, Int32.reduceSub, Int32.reduceMul, eq_self, Bool.false_eq_true]
        exact c6 i hi
    rw [e_X3_pull_17]
    simp (disch := omega) only [↓reduceIte, ic_t, ic_f, not_true_eq_false, not_false_eq_true, ↓lt_v, rdR, rdE, rdS, leT, leTc, leTd, leF, leFc, leFd, ltT, ltTc, ltTd, ltF, ltFc, ltFd, eqT, eqTc, eqTd, eqF, eqFc, eqFd, m1T, m1F, m1T', m1F', inb_nI, ix_nI, inb_c, ix_c, nI_1, nI_pred, nI_m1, add_nIc, add_cnI, bd_v, reduceCtorEq, eqFcc, m1e0, m1e1, m1l0, m1g0, m2l0, m2g0, Int32.reduceLT, Int32.reduceLE, Int32.reduceAdd, Int32.reduceSub, Int32.reduceMul, eq_self, Bool.false_eq_true, c1, c3, bI_0]
    cases hg : T.1 k
    · simp (disch := omega) only [↓reduceIte, ic_t, ic_f, not_true_eq_false, not_false_eq_true, ↓lt_v, rdR, rdE, rdS, leT, leTc, leTd, leF, leFc, leFd, ltT, ltTc, ltTd, ltF, ltFc, ltFd, eqT, eqTc, eqTd, eqF, eqFc, eqFd, m1T, m1F, m1T', m1F', inb_nI, ix_nI, inb_c, ix_c, nI_1, nI_pred, nI_m1, add_nIc, add_cnI, bd_v, reduceCtorEq, eqFcc, m1e0, m1e1, m1l0, m1g0, m2l0, m2g0, Int32.reduceLT, Int32.reduceLE, Int32.reduceAdd, Int32.reduceSub, Int32.reduceMul, eq_self, Bool.false_eq_true, c2]
      refine hstep _ ?_
      rw [hL k hk, hg]
      simp [Int32.add_zero]
    · simp (disch := omega) only [↓reduceIte, ic_t, ic_f, not_true_eq_false, not_false_eq_true, ↓lt_v, rdR, rdE, rdS, leT, leTc, leTd, leF, leFc, leFd, ltT, ltTc, ltTd, ltF, ltFc, ltFd, eqT, eqTc, eqTd, eqF, eqFc, eqFd, m1T, m1F, m1T', m1F', inb_nI, ix_nI, inb_c, ix_c, nI_1, nI_pred, nI_m1, add_nIc, add_cnI, bd_v, reduceCtorEq, eqFcc, m1e0, m1e1, m1l0, m1g0, m2l0, m2g0, Int32.reduceLT, Int32.reduceLE, Int32.reduceAdd, Int32.reduceSub, Int32.reduceMul, eq_self, Bool.false_eq_true, c2, h111]
      refine hstep _ ?_
      rw [hL k hk, hg, hft k hk hg]
      simp
  · intro fu s hs
    obtain ⟨hs, hf⟩ := hs
    have c1 := hs.1
    rw [e_X3_pull_17]
    simp (disch := omega) only [↓reduceIte, ic_t, ic_f, not_true_eq_false, not_false_eq_true, ↓lt_v, rdR, rdE, rdS, leT, leTc, leTd, leF, leFc, leFd, ltT, ltTc, ltTd, ltF, ltFc, ltFd, eqT, eqTc, eqTd, eqF, eqFc, eqFd, m1T, m1F, m1T', m1F', inb_nI, ix_nI, inb_c, ix_c, nI_1, nI_pred, nI_m1, add_nIc, add_cnI, bd_v, reduceCtorEq, eqFcc, m1e0, m1e1, m1l0, m1g0, m2l0, m2g0, Int32.reduceLT, Int32.reduceLE, Int32.reduceAdd, Int32.reduceSub, Int32.reduceMul, eq_self, Bool.false_eq_true, c1]
    refine ok_mono (tail s (rcC_ext hs (fun k hk => by simp [hk])) (fun k hk => by rw [hf.1 (r + 4) (by unfold PRc; omega)]; exact ho k hk)) (fun M' h => ⟨h.1, fr_trans hf h.2⟩)
def PRu (R a : Nat) : Prop := (108 ≤ a ∧ a ≤ 114) ∨ a = R + 2 ∨ a = R + 3
/-- feet once and for all, where the rule bears it -/
def FtC (R : Nat) (F : (Nat → Int32) → Int32) (w : Nat → Int32) (o : Nat → Nat) (n : Nat) (M : Mem) : Prop := M.1 R 2 = 0 → ∀ k, k < n → M.1 111 k = ftg F w o n 0 (rs0 w).1 (fun _ => true) k
theorem ftg_same {R : Nat} {F : (Nat → Int32) → Int32} {M : Mem} {w : Nat → Int32} {o : Nat → Nat} {n t t' k : Nat} {L L' : Nat → Int32} {G G' : Nat → Bool} (hu : RuC R F M) (h : M.1 R 2 = 0) : ftg F w o n t L G k = ftg F w o n t' L' G' k := by
  unfold ftg
  rw [hu.2.1 h (thg w o n t L G k) (thg w o n t' L' G' k) rfl rfl rfl rfl]
theorem c_pull {M : Mem} {n r t R : Nat} {w : Nat → Int32} {o : Nat → Nat} {F : (Nat → Int32) → Int32} {s : RS} (hw : Wf n w o) (ht : t < 1000) (hr : r + 4 < 108 ∨ 153 < r) (hR : R = 146 ∨ R = 150) (hc : RcC n s.1 s.2 M) (hi : Ti n s.2) (hv : RivC r n w o M) (hu : RuC R F M) (hf : FtC R F w o n M) :
    Ok (fX3_pull r R (nI t) M) (fun M' => RcC n (stp F w o n t s).1 (stp F w o n t s).2 M' ∧ FtC R F w o n M' ∧ Fr (PRu R) M M') := by
  have hn := hw.1
  rw [e_X3_pull]
  by_cases h0 : M.1 R 2 = 0
  · simp (disch := omega) only [↓reduceIte, ic_t, ic_f, not_true_eq_false, not_false_eq_true, ↓lt_v, rdR, rdE, rdS, leT, leTc, leTd, leF, leFc, leFd, ltT, ltTc, ltTd, ltF, ltFc, ltFd, eqT, eqTc, eqTd, eqF, eqFc, eqFd, m1T, m1F, m1T', m1F', inb_nI, ix_nI, inb_c, ix_c, nI_1, nI_pred, nI_m1, add_nIc, add_cnI, bd_v, reduceCtorEq, eqFcc, m1e0, m1e1, m1l0, m1g0, m2l0, m2g0, Int32.reduceLT, Int32.reduceLE, Int32.reduceAdd, Int32.reduceSub, Int32.reduceMul, eq_self, Bool.false_eq_true, h0]
    refine ok_mono (c_move (o := o) (ft := ftg F w o n t s.1 s.2.1) (L' := (stp F w o n t s).1) hn ht (by omega) hc hi hv.2.2.2.2.1 (fun k hk hg => ?_) (fun k hk => rfl)) (fun M' h => ⟨h.1, ?_, fr_sub h.2 (fun a ha => by unfold PRc at ha; unfold PRu; omega)⟩)
    · rw [hf h0 k hk]
      exact ftg_same hu h0
    · intro _ k hk
      rw [h.2.1 111 (by unfold PRc; omega)]
      exact hf h0 k hk
  · rw [ic_neg h0]
    refine ok_call (c_weigh (t := t) hw hr hR hc hv hu) (fun M1 h1 => ?_)
    have hc1 : RcC n s.1 s.2 M1 := rcC_fr hc h1.2 (fun a ha => by unfold PW at ha; omega)
    refine ok_mono (c_move (o := o) (ft := ftg F w o n t s.1 s.2.1) (L' := (stp F w o n t s).1) hn ht (by omega) hc1 hi (fun k hk => by rw [h1.2.1 (r + 4) (by unfold PW; omega)]; exact hv.2.2.2.2.1 k hk) (fun k hk hg => h1.1 k hk hg) (fun k hk => rfl)) (fun M' h => ⟨h.1, ?_, fr_trans (fr_sub h1.2 (fun a ha => by unfold PW at ha; unfold PRu; omega)) (fr_sub h.2 (fun a ha => by unfold PRc at ha; unfold PRu; omega))⟩)
    intro h2
    rw [h.2.1 R (by unfold PRc; omega), h1.2.1 R (by unfold PW; omega)] at h2
    exact absurd h2 h0
theorem c_begin {M : Mem} {n r R : Nat} {w : Nat → Int32} {o : Nat → Nat} {F : (Nat → Int32) → Int32} (hw : Wf n w o) (hr : r + 4 < 108 ∨ 153 < r) (hR : R = 146 ∨ R = 150) (hv : RivC r n w o M) (hu : RuC R F M) :
    Ok (fX3_begin r R M) (fun M' => RcC n (rs0 w).1 (rs0 w).2 M' ∧ FtC R F w o n M' ∧ Fr (PRu R) M M') := by
  have hn := hw.1
  obtain ⟨v1, v2, v3, v4, v5, v6, v7, v8, v9⟩ := hv
  rw [e_X3_begin]
  simp (disch := omega) only [↓reduceIte, ic_t, ic_f, not_true_eq_false, not_false_eq_true, ↓lt_v, rdR, rdE, rdS, leT, leTc, leTd, leF, leFc, leFd, ltT, ltTc, ltTd, ltF, ltFc, ltFd, eqT, eqTc, eqTd, eqF, eqFc, eqFd, m1T, m1F, m1T', m1F', inb_nI, ix_nI, inb_c, ix_c, nI_1, nI_pred, nI_m1, add_nIc, add_cnI, bd_v, reduceCtorEq, eqFcc, m1e0, m1e1, m1l0, m1g0, m2l0, m2g0, Int32.reduceLT, Int32.reduceLE, Int32.reduceAdd, Int32.reduceSub, Int32.reduceMul, eq_self, Bool.false_eq_true, v1]
  have hFU : 2000 < FU := FU_big
  generalize FU = fu0 at hFU ⊢
  refine ok_loop n (fun fu k s => fX3_begin_23 fu r R (nI k) s) (fun k s => (s.1 108 0 = nI n ∧ s.1 108 4 = nI n ∧ s.1 108 5 = nI 0 ∧ (∀ j, j < k → s.1 109 j = (rs0 w).1 j ∧ s.1 110 j = 1)) ∧ Fr PRc M s) ?_ ?_ fu0 0 _ (by omega) (by omega) ⟨⟨?_, ?_, ?_, fun j hj => absurd hj (Nat.not_lt_zero _)⟩, ?_⟩
  · intro fu k s hk hs ih
    obtain ⟨⟨c1, c2, c3, c4⟩, hf⟩ := hs
    have v6' : s.1 r 5 = w 18 := by rw [hf.1 r (by unfold PRc; omega)]; exact v6
    rw [e_X3_begin_23]
    simp (disch := omega) only [↓reduceIte, ic_t, ic_f, not_true_eq_false, not_false_eq_true, ↓lt_v, rdR, rdE, rdS, leT, leTc, leTd, leF, leFc, leFd, ltT, ltTc, ltTd, ltF, ltFc, ltFd, eqT, eqTc, eqTd, eqF, eqFc, eqFd, m1T, m1F, m1T', m1F', inb_nI, ix_nI, inb_c, ix_c, nI_1, nI_pred, nI_m1, add_nIc, add_cnI, bd_v, reduceCtorEq, eqFcc, m1e0, m1e1, m1l0, m1g0, m2l0, m2g0, Int32.reduceLT, Int32.reduceLE, Int32.reduceAdd, Int32.reduceSub, Int32.reduceMul, eq_self, Bool.false_eq_true, c1, v6', nn11]
    refine ih _ ⟨⟨?_, ?_, ?_, ?_⟩, fr_trans (fr_trans hf (fr_sI (by unfold PRc; omega))) (fr_sI (by unfold PRc; omega))⟩
    · simp (disch := omega) only [↓reduceIte, ic_t, ic_f, not_true_eq_false, not_false_eq_true, ↓lt_v, rdR, rdE, rdS, leT, leTc, leTd, leF, leFc, leFd, ltT, ltTc, ltTd, ltF, ltFc, ltFd, eqT, eqTc, eqTd, eqF, eqFc, eqFd, m1T, m1F, m1T', m1F', inb_nI, ix_nI, inb_c, ix_c, nI_1, nI_pred, nI_m1, add_nIc, add_cnI, bd_v, reduceCtorEq, eqFcc, m1e0, m1e1, m1l0, m1g0, m2l0, m2g0, Int32.reduceLT, Int32.reduceLE, Int32.reduceAdd, Int32.reduceSub, Int32.reduceMul, eq_self, Bool.false_eq_true, c1]
    · simp (disch := omega) only [↓reduceIte, ic_t, ic_f, not_true_eq_false, not_false_eq_true, ↓lt_v, rdR, rdE, rdS, leT, leTc, leTd, leF, leFc, leFd, ltT, ltTc, ltTd, ltF, ltFc, ltFd, eqT, eqTc, eqTd, eqF, eqFc, eqFd, m1T, m1F, m1T', m1F', inb_nI, ix_nI, inb_c, ix_c, nI_1, nI_pred, nI_m1, add_nIc, add_cnI, bd_v, reduceCtorEq, eqFcc, m1e0, m1e1, m1l0, m1g0, m2l0, m2g0, Int32.reduceLT, Int32.reduceLE, Int32.reduceAdd, Int32.reduceSub, Int32.reduceMul, eq_self, Bool.false_eq_true, c2]
    · simp (disch := omega) only [↓reduceIte, ic_t, ic_f, not_true_eq_false, not_false_eq_true, ↓lt_v, rdR, rdE, rdS, leT, leTc, leTd, leF, leFc, leFd, ltT, ltTc, ltTd, ltF, ltFc, ltFd, eqT, eqTc, eqTd, eqF, eqFc, eqFd, m1T, m1F, m1T', m1F', inb_nI, ix_nI, inb_c, ix_c, nI_1, nI_pred, nI_m1, add_nIc, add_cnI, bd_v, reduceCtorEq, eqFcc, m1e0, m1e1, m1l0, m1g0, m2l0, m2g0, Int32.reduceLT, Int32.reduceLE, Int32.reduceAdd, Int32.reduceSub, Int32.reduceMul, eq_self, Bool.false_eq_true, c3]
    · intro j hj
      by_cases ej : j = k
      · subst ej
        simp (disch := omega) only [↓reduceIte, ic_t, ic_f, not_true_eq_false, not_false_eq_true, ↓lt_v, rdR, rdE, rdS, leT, leTc, leTd, leF, leFc, leFd, ltT, ltTc, ltTd, ltF, ltFc, ltFd, eqT, eqTc, eqTd, eqF, eqFc, eqFd, m1T, m1F, m1T', m1F', inb_nI, ix_nI, inb_c, ix_c, nI_1, nI_pred, nI_m1, add_nIc, add_cnI, bd_v, reduceCtorEq, eqFcc, m1e0, m1e1, m1l0, m1g0, m2l0, m2g0, Int32.reduceLT, Int32.reduceLE, Int32.reduceAdd, Int32.reduceSub, Int32.reduceMul, eq_self, Bool.false_eq_true]
        exact ⟨rfl, trivial⟩
      · simp (disch := omega) only [↓reduceIte, ic_t, ic_f, not_true_eq_false, not_false_eq_true, ↓lt_v, rdR, rdE, rdS, leT, leTc, leTd, leF, leFc, leFd, ltT, ltTc, ltTd, ltF, ltFc, ltFd, eqT, eqTc, eqTd, eqF, eqFc, eqFd, m1T, m1F, m1T', m1F', inb_nI, ix_nI, inb_c, ix_c, nI_1, nI_pred, nI_m1, add_nIc, add_cnI, bd_v, reduceCtorEq, eqFcc, m1e0, m1e1, m1l0, m1g0, m2l0, m2g0, Int32.reduceLT, Int32.reduceLE, Int32.reduceAdd, Int32.reduceSub, Int32.reduceMul, eq_self, Bool.false_eq_true]
        exact c4 j (by omega)
  · intro fu s hs
    obtain ⟨⟨c1, c2, c3, c4⟩, hf⟩ := hs
    have e : ∀ a, ¬ PRc a → s.1 a = M.1 a := hf.1
    have hrc : RcC n (rs0 w).1 (rs0 w).2 s := ⟨c1, fun k hk => (c4 k hk).1, fun k hk => (c4 k hk).2, c2, c3, fun i hi => absurd hi (Nat.not_lt_zero _)⟩
    have hRe : s.1 R = M.1 R := e R (by unfold PRc; omega)
    have hu' : RuC R F s := ruC_fr hu hRe (e (R + 1) (by unfold PRc; omega))
    have hv' : RivC r n w o s := rivC_fr (M := M) ⟨v1, v2, v3, v4, v5, v6, v7, v8, v9⟩ (fun a h1 h2 => e a (by unfold PRc; omega))
    rw [e_X3_begin_23]
    simp (disch := omega) only [↓reduceIte, ic_t, ic_f, not_true_eq_false, not_false_eq_true, ↓lt_v, rdR, rdE, rdS, leT, leTc, leTd, leF, leFc, leFd, ltT, ltTc, ltTd, ltF, ltFc, ltFd, eqT, eqTc, eqTd, eqF, eqFc, eqFd, m1T, m1F, m1T', m1F', inb_nI, ix_nI, inb_c, ix_c, nI_1, nI_pred, nI_m1, add_nIc, add_cnI, bd_v, reduceCtorEq, eqFcc, m1e0, m1e1, m1l0, m1g0, m2l0, m2g0, Int32.reduceLT, Int32.reduceLE, Int32.reduceAdd, Int32.reduceSub, Int32.reduceMul, eq_self, Bool.false_eq_true, c1]
    by_cases h0 : s.1 R 2 = 0
    · rw [ic_pos h0]
      refine ok_call (c_weigh (t := 0) hw hr hR hrc hv' hu') (fun M1 h1 => ok_some ⟨rcC_fr hrc h1.2 (fun a ha => by unfold PW at ha; omega), fun _ k hk => h1.1 k hk rfl, fr_trans (fr_sub hf (fun a ha => by unfold PRc at ha; unfold PRu; omega)) (fr_sub h1.2 (fun a ha => by unfold PW at ha; unfold PRu; omega))⟩)
    · rw [ic_neg h0]
      exact ok_some ⟨hrc, fun h => absurd h h0, fr_sub hf (fun a ha => by unfold PRc at ha; unfold PRu; omega)⟩
  · simp (disch := omega) only [↓reduceIte, ic_t, ic_f, not_true_eq_false, not_false_eq_true, ↓lt_v, rdR, rdE, rdS, leT, leTc, leTd, leF, leFc, leFd, ltT, ltTc, ltTd, ltF, ltFc, ltFd, eqT, eqTc, eqTd, eqF, eqFc, eqFd, m1T, m1F, m1T', m1F', inb_nI, ix_nI, inb_c, ix_c, nI_1, nI_pred, nI_m1, add_nIc, add_cnI, bd_v, reduceCtorEq, eqFcc, m1e0, m1e1, m1l0, m1g0, m2l0, m2g0, Int32.reduceLT, Int32.reduceLE, Int32.reduceAdd, Int32.reduceSub, Int32.reduceMul, eq_self, Bool.false_eq_true]
  · simp (disch := omega) only [↓reduceIte, ic_t, ic_f, not_true_eq_false, not_false_eq_true, ↓lt_v, rdR, rdE, rdS, leT, leTc, leTd, leF, leFc, leFd, ltT, ltTc, ltTd, ltF, ltFc, ltFd, eqT, eqTc, eqTd, eqF, eqFc, eqFd, m1T, m1F, m1T', m1F', inb_nI, ix_nI, inb_c, ix_c, nI_1, nI_pred, nI_m1, add_nIc, add_cnI, bd_v, reduceCtorEq, eqFcc, m1e0, m1e1, m1l0, m1g0, m2l0, m2g0, Int32.reduceLT, Int32.reduceLE, Int32.reduceAdd, Int32.reduceSub, Int32.reduceMul, eq_self, Bool.false_eq_true]
  · simp (disch := omega) only [↓reduceIte, ic_t, ic_f, not_true_eq_false, not_false_eq_true, ↓lt_v, rdR, rdE, rdS, leT, leTc, leTd, leF, leFc, leFd, ltT, ltTc, ltTd, ltF, ltFc, ltFd, eqT, eqTc, eqTd, eqF, eqFc, eqFd, m1T, m1F, m1T', m1F', inb_nI, ix_nI, inb_c, ix_c, nI_1, nI_pred, nI_m1, add_nIc, add_cnI, bd_v, reduceCtorEq, eqFcc, m1e0, m1e1, m1l0, m1g0, m2l0, m2g0, Int32.reduceLT, Int32.reduceLE, Int32.reduceAdd, Int32.reduceSub, Int32.reduceMul, eq_self, Bool.false_eq_true]
  · unfold PRc; repeat (first | exact fr_rfl | refine fr_trans ?_ (fr_sI (by omega)))
theorem c_run {M : Mem} {n r R : Nat} {w : Nat → Int32} {o : Nat → Nat} {F : (Nat → Int32) → Int32} {st : Nat} (hw : Wf n w o) (hst : w 19 = nI st) (hst2 : st ≤ 40) (hr : r + 4 < 108 ∨ 153 < r) (hR : R = 146 ∨ R = 150) (hv : RivC r n w o M) (hu : RuC R F M) :
    Ok (fX3_run r R M) (fun M' => (∃ L, RcC n L (rs F w o n st).2 M') ∧ Fr (PRu R) M M') := by
  have hn := hw.1
  rw [e_X3_run]
  refine ok_call (c_begin hw hr hR hv hu) (fun M1 h1 => ?_)
  obtain ⟨a1, a2, a3⟩ := h1
  have hFU : 2000 < FU := FU_big
  generalize FU = fu0 at hFU ⊢
  refine ok_loop st (fun fu k s => fX3_run_8 fu r R (nI k) s) (fun k s => RcC n (rs F w o n k).1 (rs F w o n k).2 s ∧ FtC R F w o n s ∧ Fr (PRu R) M s) ?_ ?_ fu0 0 _ (by omega) (by omega) ⟨a1, a2, a3⟩
  · intro fu k s hk hs ih
    obtain ⟨b1, b2, b3⟩ := hs
    have hv' : RivC r n w o s := rivC_fr hv (fun a h1 h2 => b3.1 a (by unfold PRu; omega))
    have hu' : RuC R F s := ruC_fr hu (b3.1 R (by unfold PRu; omega)) (b3.1 (R + 1) (by unfold PRu; omega))
    have c4 := b1.2.2.2.1
    have v7 : s.1 r 6 = nI st := hv'.2.2.2.2.2.2.1.trans hst
    rw [e_X3_run_8]
    simp (disch := omega) only [↓reduceIte, ic_t, ic_f, not_true_eq_false, not_false_eq_true, ↓lt_v, rdR, rdE, rdS, leT, leTc, leTd, leF, leFc, leFd, ltT, ltTc, ltTd, ltF, ltFc, ltFd, eqT, eqTc, eqTd, eqF, eqFc, eqFd, m1T, m1F, m1T', m1F', inb_nI, ix_nI, inb_c, ix_c, nI_1, nI_pred, nI_m1, add_nIc, add_cnI, bd_v, reduceCtorEq, eqFcc, m1e0, m1e1, m1l0, m1g0, m2l0, m2g0, Int32.reduceLT, Int32.reduceLE, Int32.reduceAdd, Int32.reduceSub, Int32.reduceMul, eq_self, Bool.false_eq_true, v7, c4]
    by_cases hl : n - 2 * (rs F w o n k).2.2.1 ≤ 1
    · simp (disch := omega) only [↓reduceIte, ic_t, ic_f, not_true_eq_false, not_false_eq_true, ↓lt_v, rdR, rdE, rdS, leT, leTc, leTd, leF, leFc, leFd, ltT, ltTc, ltTd, ltF, ltFc, ltFd, eqT, eqTc, eqTd, eqF, eqFc, eqFd, m1T, m1F, m1T', m1F', inb_nI, ix_nI, inb_c, ix_c, nI_1, nI_pred, nI_m1, add_nIc, add_cnI, bd_v, reduceCtorEq, eqFcc, m1e0, m1e1, m1l0, m1g0, m2l0, m2g0, Int32.reduceLT, Int32.reduceLE, Int32.reduceAdd, Int32.reduceSub, Int32.reduceMul, eq_self, Bool.false_eq_true]
      refine ok_some ⟨⟨(rs F w o n k).1, ?_⟩, b3⟩
      have := rs_stay hl (st - k)
      rw [show k + (st - k) = st by omega] at this
      rw [this]
      exact b1
    · simp (disch := omega) only [↓reduceIte, ic_t, ic_f, not_true_eq_false, not_false_eq_true, ↓lt_v, rdR, rdE, rdS, leT, leTc, leTd, leF, leFc, leFd, ltT, ltTc, ltTd, ltF, ltFc, ltFd, eqT, eqTc, eqTd, eqF, eqFc, eqFd, m1T, m1F, m1T', m1F', inb_nI, ix_nI, inb_c, ix_c, nI_1, nI_pred, nI_m1, add_nIc, add_cnI, bd_v, reduceCtorEq, eqFcc, m1e0, m1e1, m1l0, m1g0, m2l0, m2g0, Int32.reduceLT, Int32.reduceLE, Int32.reduceAdd, Int32.reduceSub, Int32.reduceMul, eq_self, Bool.false_eq_true]
      refine ok_call (c_pull hw (by omega) hr hR b1 (ti_rs k) hv' hu' b2) (fun M2 h2 => ?_)
      exact ih _ ⟨h2.1, h2.2.1, fr_trans b3 h2.2.2⟩
  · intro fu s hs
    obtain ⟨b1, b2, b3⟩ := hs
    have v7 : s.1 r 6 = nI st := by rw [b3.1 r (by unfold PRu; omega)]; exact hv.2.2.2.2.2.2.1.trans hst
    rw [e_X3_run_8]
    simp (disch := omega) only [↓reduceIte, ic_t, ic_f, not_true_eq_false, not_false_eq_true, ↓lt_v, rdR, rdE, rdS, leT, leTc, leTd, leF, leFc, leFd, ltT, ltTc, ltTd, ltF, ltFc, ltFd, eqT, eqTc, eqTd, eqF, eqFc, eqFd, m1T, m1F, m1T', m1F', inb_nI, ix_nI, inb_c, ix_c, nI_1, nI_pred, nI_m1, add_nIc, add_cnI, bd_v, reduceCtorEq, eqFcc, m1e0, m1e1, m1l0, m1g0, m2l0, m2g0, Int32.reduceLT, Int32.reduceLE, Int32.reduceAdd, Int32.reduceSub, Int32.reduceMul, eq_self, Bool.false_eq_true, v7]
    exact ok_some ⟨⟨_, b1⟩, b3⟩
