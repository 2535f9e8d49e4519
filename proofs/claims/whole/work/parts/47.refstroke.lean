/-! PURE: the reference's strokes -/
/-- the reference's rule: what it gives -/
def RuR (F : (Nat → Int32) → Int32) (M : Mem) : Prop :=
  (∃ len, len ≤ 80 ∧ M.1 169 16 = nI len ∧ ∀ M' : Mem, (∀ k, k < len → M'.1 175 k = M.1 175 k) → M'.1 169 16 = nI len → Ok (fX10_ruled M') (fun q => q.1 = F (M'.1 178) ∧ FrR (fun a => a = 177) (fun _ => False) M' q.2)) ∧
  (∀ th th' : Nat → Int32, (∀ i, i < 7 → th i = th' i) → F th = F th')
theorem ruR_fr {F : (Nat → Int32) → Int32} {M M' : Mem} (h : RuR F M) (h1 : M'.1 175 = M.1 175) (h2 : M'.1 169 16 = M.1 169 16) : RuR F M' := by
  obtain ⟨⟨len, l1, l2, l3⟩, g⟩ := h
  exact ⟨⟨len, l1, h2.trans l2, fun N a b => l3 N (fun k hk => (a k hk).trans (congrFun h1 k)) b⟩, g⟩
theorem ruR_app {F : (Nat → Int32) → Int32} {M M' : Mem} (h : RuR F M) (h1 : M'.1 175 = M.1 175) (h2 : M'.1 169 16 = M.1 169 16) : Ok (fX10_ruled M') (fun q => q.1 = F (M'.1 178) ∧ FrR (fun a => a = 177) (fun _ => False) M' q.2) := by
  obtain ⟨⟨len, l1, l2, l3⟩, g⟩ := h
  exact l3 M' (fun k _ => congrFun h1 k) (h2.trans l2)
theorem rcR_fr {n : Nat} {o : Nat → Nat} {L : Nat → Int32} {T : TS} {M M' : Mem} {P S : Nat → Prop} (h : RcR n o L T M) (hf : FrR P S M M') (hp : ∀ a, P a → ¬ (a = 179 ∨ a = 180 ∨ a = 182 ∨ a = 183 ∨ a = 184)) (hs : ∀ i, S i → ¬ (i = 3 ∨ i = 23 ∨ i = 27)) : RcR n o L T M' := by
  unfold RcR
  rw [hf.2.1 3 (fun q => hs _ q (by omega)), hf.2.1 23 (fun q => hs _ q (by omega)), hf.2.1 27 (fun q => hs _ q (by omega)), hf.1 179 (by omega) (fun q => hp _ q (by omega)), hf.1 180 (by omega) (fun q => hp _ q (by omega)), hf.1 182 (by omega) (fun q => hp _ q (by omega)), hf.1 183 (by omega) (fun q => hp _ q (by omega)), hf.1 184 (by omega) (fun q => hp _ q (by omega))]
  exact h
def PA (a : Nat) : Prop := a = 177 ∨ a = 178 ∨ a = 181
theorem r_asks {M : Mem} {n a t : Nat} {w : Nat → Int32} {o : Nat → Nat} {L : Nat → Int32} {T : TS} {F : (Nat → Int32) → Int32} {Q : Mem → Prop} (hw : Wf n w o) (hl : ln a = 22) (ha : a < 169 ∨ 184 < a ∨ a = 171 ∨ a = 172) (hc : RcR n o L T M) (hv : ∀ i, i < 22 → M.1 a i = w i) (hu : RuR F M)
    (kk : ∀ s, (∀ k, k < n → s.1 181 (o k) = if T.1 k = true then ftg F w o n t L T.1 k else 0) → FrR PA (fun _ => False) M s → Ok (fX10_strokeGoes_168 FU (nI t) 0 s) Q) :
    Ok (fX10_strokeGoes a (nI t) M) Q := by
  have hn := hw.1
  have ho : ∀ k, k < n → o k < n := fun k hk => (hw.2.1 k hk).1
  rw [e_X10_strokeGoes]
  have hFU : 2000 < FU := FU_big
  generalize FU = fu0 at hFU ⊢
  refine ok_loop n (fun fu k s => fX10_strokeGoes_2 fu a (nI t) (nI k) s) (fun k s => (∀ j, j < k → s.1 181 (o j) = if T.1 j = true then ftg F w o n t L T.1 j else 0) ∧ FrR PA (fun _ => False) M s) ?_ ?_ fu0 0 M (by omega) (by omega) ⟨fun j hj => absurd hj (Nat.not_lt_zero _), frR_rfl⟩
  · intro fu k s hk hs ih
    obtain ⟨hs, hf⟩ := hs
    have hc1 : RcR n o L T s := rcR_fr hc hf (fun b hb => by unfold PA at hb; omega) (fun i hi => hi.elim)
    have hv1 : ∀ i, i < 22 → s.1 a i = w i := by rw [hf.1 a (by omega) (by unfold PA; omega)]; exact hv
    have hu1 : RuR F s := ruR_fr hu (hf.1 175 (by omega) (by unfold PA; omega)) (hf.2.1 16 (fun q => q))
    have hok := ho k hk
    have hb := r_nextB' hn ho hc1 hk
    have hxl := nx_le T.1 n (n - (k + 1)) (by omega)
    have nxo : ∀ b, nx T.1 n (n - (k + 1)) = b + 1 → o b < n := fun b hb => ho b (by omega)
    obtain ⟨c1, c2, c3, ⟨x, hx, x1, x2, x3⟩, c5, c6⟩ := hc1
    have fin : ∀ (s1 : Mem), FrR (fun a => a = 178) (fun _ => False) s s1 → (∀ i, i < 7 → s1.1 178 i = thg w o n t L T.1 k i) → Ok (ic (bI (T.1 k) = 0) (fX10_strokeGoes_2 fu a (nI t) (nI (k + 1)) (sI s1 181 (o k) 0)) ((fX10_ruled s1).bind fun q => fX10_strokeGoes_2 fu a (nI t) (nI (k + 1)) (sI q.2 181 (o k) (if (0 : Int32) < (if q.1 < (20 : Int32) then q.1 else 20) then (if q.1 < (20 : Int32) then q.1 else 20) else 0)))) Q := by
      intro s1 hf1 hth
      have old : ∀ (s2 : Mem), s2.1 181 = s.1 181 → ∀ v, v = (if T.1 k = true then ftg F w o n t L T.1 k else 0) → ∀ j, j < k + 1 → (sI s2 181 (o k) v).1 181 (o j) = if T.1 j = true then ftg F w o n t L T.1 j else 0 := by
        intro s2 h2 v hv j hj
        by_cases ej : j = k
        · subst ej
          simp (disch := omega) only [↓reduceIte, ic_t, ic_f, not_true_eq_false, not_false_eq_true, ↓lt_v, rdR, rdE, rdS, leT, leTc, leTd, leF, leFc, leFd, ltT, ltTc, ltTd, ltF, ltFc, ltFd, eqT, eqTc, eqTd, eqF, eqFc, eqFd, m1T, m1F, m1T', m1F', inb_nI, ix_nI, inb_c, ix_c, nI_1, nI_pred, nI_m1, add_nIc, add_cnI, bd_v, reduceCtorEq, eqFcc, m1e0, m1e1, m1l0, m1g0, m2l0, m2g0, Int32.reduceLT, Int32.reduceLE, Int32.reduceAdd, Int32.reduceSub, Int32.reduceMul, eq_self, Bool.false_eq_true, hv]
        · have : o j ≠ o k := fun q => ej (wf_inj hw (by omega) hk q)
          simp (disch := omega) only [↓reduceIte, ic_t, ic_f, not_true_eq_false, not_false_eq_true, ↓lt_v, rdR, rdE, rdS, leT, leTc, leTd, leF, leFc, leFd, ltT, ltTc, ltTd, ltF, ltFc, ltFd, eqT, eqTc, eqTd, eqF, eqFc, eqFd, m1T, m1F, m1T', m1F', inb_nI, ix_nI, inb_c, ix_c, nI_1, nI_pred, nI_m1, add_nIc, add_cnI, bd_v, reduceCtorEq, eqFcc, m1e0, m1e1, m1l0, m1g0, m2l0, m2g0, Int32.reduceLT, Int32.reduceLE, Int32.reduceAdd, Int32.reduceSub, Int32.reduceMul, eq_self, Bool.false_eq_true]
          rw [h2]
          exact hs j (by omega)
      have e181 : s1.1 181 = s.1 181 := hf1.1 181 (by omega) (by omega)
      have hf1' : FrR PA (fun _ => False) s s1 := frR_sub hf1 (fun a _ h => by unfold PA; omega) (fun i h => h)
      cases hg : T.1 k
      · rw [ic_pos (by rw [bI_0])]
        exact ih _ ⟨old s1 e181 _ (by rw [hg]; rfl), frR_trans (frR_trans hf hf1') (frR_sI (by unfold PA; omega) (by omega))⟩
      · rw [ic_neg (by rw [bI_0]; simp)]
        refine ok_call (ruR_app hu1 (hf1.1 175 (by omega) (by omega)) (hf1.2.1 16 (fun q => q))) (fun q hq => ?_)
        refine ih _ ⟨old q.2 (by rw [hq.2.1 181 (by omega) (by omega)]; exact e181) _ ?_, frR_trans (frR_trans (frR_trans hf hf1') (frR_sub hq.2 (fun a _ h => by unfold PA; omega) (fun i h => h))) (frR_sI (by unfold PA; omega) (by omega))⟩
        rw [hg, hq.1, hu1.2 _ _ hth]
        rfl
    have hbh : ∀ s1 : Mem, FrR (fun a => a = 178) (fun _ => False) s s1 → fX10_behind (nI k) s1 = some (if na T.1 k = 0 then 99 else L (na T.1 k - 1) - L k, s1) := fun s1 h1 => r_behind hn ho (rcR_fr ⟨c1, c2, c3, ⟨x, hx, x1, x2, x3⟩, c5, c6⟩ h1 (fun b hb => by omega) (fun i hi => hi.elim)) hk
    have hhas : ∀ s1 : Mem, fX10_has (nI x) (nI (o k)) s1 = some (bI (T.1 k), s1) := fun s1 => by rw [r_has hx (by omega), x2 k hk]
    rw [e_X10_strokeGoes_2]
    simp (disch := omega) only [↓reduceIte, ic_t, ic_f, not_true_eq_false, not_false_eq_true, ↓lt_v, rdR, rdE, rdS, leT, leTc, leTd, leF, leFc, leFd, ltT, ltTc, ltTd, ltF, ltFc, ltFd, eqT, eqTc, eqTd, eqF, eqFc, eqFd, m1T, m1F, m1T', m1F', inb_nI, ix_nI, inb_c, ix_c, nI_1, nI_pred, nI_m1, add_nIc, add_cnI, bd_v, reduceCtorEq, eqFcc, m1e0, m1e1, m1l0, m1g0, m2l0, m2g0, Int32.reduceLT, Int32.reduceLE, Int32.reduceAdd, Int32.reduceSub, Int32.reduceMul, eq_self, Bool.false_eq_true, c1, c2, hb, hl, hv1]
    rw [hbh _ (by repeat (first | exact frR_rfl | refine frR_trans ?_ (frR_sI (by omega) (by omega))))]
    by_cases hb0 : nx T.1 n (n - (k + 1)) = 0
    · simp (disch := omega) only [↓reduceIte, ic_t, ic_f, not_true_eq_false, not_false_eq_true, ↓lt_v, rdR, rdE, rdS, leT, leTc, leTd, leF, leFc, leFd, ltT, ltTc, ltTd, ltF, ltFc, ltFd, eqT, eqTc, eqTd, eqF, eqFc, eqFd, m1T, m1F, m1T', m1F', inb_nI, ix_nI, inb_c, ix_c, nI_1, nI_pred, nI_m1, add_nIc, add_cnI, bd_v, reduceCtorEq, eqFcc, m1e0, m1e1, m1l0, m1g0, m2l0, m2g0, Int32.reduceLT, Int32.reduceLE, Int32.reduceAdd, Int32.reduceSub, Int32.reduceMul, eq_self, Bool.false_eq_true, hb0, e_X10_strokeGoes_109, hl, hv1, x1, hhas]
      refine fin _ (by repeat (first | exact frR_rfl | refine frR_trans ?_ (frR_sI (by omega) (by omega)))) ?_
      intro i hi
      rcases (show i = 0 ∨ i = 1 ∨ i = 2 ∨ i = 3 ∨ i = 4 ∨ i = 5 ∨ i = 6 by omega) with rfl | rfl | rfl | rfl | rfl | rfl | rfl <;> simp (disch := omega) only [↓reduceIte, ic_t, ic_f, not_true_eq_false, not_false_eq_true, ↓lt_v, rdR, rdE, rdS, leT, leTc, leTd, leF, leFc, leFd, ltT, ltTc, ltTd, ltF, ltFc, ltFd, eqT, eqTc, eqTd, eqF, eqFc, eqFd, m1T, m1F, m1T', m1F', inb_nI, ix_nI, inb_c, ix_c, nI_1, nI_pred, nI_m1, add_nIc, add_cnI, bd_v, reduceCtorEq, eqFcc, m1e0, m1e1, m1l0, m1g0, m2l0, m2g0, Int32.reduceLT, Int32.reduceLE, Int32.reduceAdd, Int32.reduceSub, Int32.reduceMul, eq_self, Bool.false_eq_true] <;> simp [thg, hb0]
    · obtain ⟨b, hb⟩ : ∃ b, nx T.1 n (n - (k + 1)) = b + 1 := ⟨nx T.1 n (n - (k + 1)) - 1, by omega⟩
      have hob := nxo b hb
      simp (disch := omega) only [↓reduceIte, ic_t, ic_f, not_true_eq_false, not_false_eq_true, ↓lt_v, rdR, rdE, rdS, leT, leTc, leTd, leF, leFc, leFd, ltT, ltTc, ltTd, ltF, ltFc, ltFd, eqT, eqTc, eqTd, eqF, eqFc, eqFd, m1T, m1F, m1T', m1F', inb_nI, ix_nI, inb_c, ix_c, nI_1, nI_pred, nI_m1, add_nIc, add_cnI, bd_v, reduceCtorEq, eqFcc, m1e0, m1e1, m1l0, m1g0, m2l0, m2g0, Int32.reduceLT, Int32.reduceLE, Int32.reduceAdd, Int32.reduceSub, Int32.reduceMul, eq_self, Bool.false_eq_true, hb, e_X10_strokeGoes_109, hl, hv1, x1, hhas, c2, c3]
      refine fin _ (by repeat (first | exact frR_rfl | refine frR_trans ?_ (frR_sI (by omega) (by omega)))) ?_
      intro i hi
      rcases (show i = 0 ∨ i = 1 ∨ i = 2 ∨ i = 3 ∨ i = 4 ∨ i = 5 ∨ i = 6 by omega) with rfl | rfl | rfl | rfl | rfl | rfl | rfl <;> simp (disch := omega) only [↓reduceIte, ic_t, ic_f, not_true_eq_false, not_false_eq_true, ↓lt_v, rdR, rdE, rdS, leT, leTc, leTd, leF, leFc, leFd, ltT, ltTc, ltTd, ltF, ltFc, ltFd, eqT, eqTc, eqTd, eqF, eqFc, eqFd, m1T, m1F, m1T', m1F', inb_nI, ix_nI, inb_c, ix_c, nI_1, nI_pred, nI_m1, add_nIc, add_cnI, bd_v, reduceCtorEq, eqFcc, m1e0, m1e1, m1l0, m1g0, m2l0, m2g0, Int32.reduceLT, Int32.reduceLE, Int32.reduceAdd, Int32.reduceSub, Int32.reduceMul, eq_self, Bool.false_eq_true] <;> simp [thg, hb]
  · intro fu s hs
    have c1 := hc.1
    rw [← hs.2.2.1 3 (fun q => q)] at c1
    rw [e_X10_strokeGoes_2]
    simp (disch := omega) only [↓reduceIte, ic_t, ic_f, not_true_eq_false, not_false_eq_true, ↓lt_v, rdR, rdE, rdS, leT, leTc, leTd, leF, leFc, leFd, ltT, ltTc, ltTd, ltF, ltFc, ltFd, eqT, eqTc, eqTd, eqF, eqFc, eqFd, m1T, m1F, m1T', m1F', inb_nI, ix_nI, inb_c, ix_c, nI_1, nI_pred, nI_m1, add_nIc, add_cnI, bd_v, reduceCtorEq, eqFcc, m1e0, m1e1, m1l0, m1g0, m2l0, m2g0, Int32.reduceLT, Int32.reduceLE, Int32.reduceAdd, Int32.reduceSub, Int32.reduceMul, eq_self, Bool.false_eq_true, c1]
    exact kk s hs.1 hs.2
