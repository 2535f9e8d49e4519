/-! PURE: the reference reads a week -/
theorem wE_0 {m p : Nat} {f : Nat → Nat} (h : ¬ (p < m ∧ al (f p) ≠ 0)) : wE m f p = some p := by unfold wE; rw [if_pos h]
theorem wE_1 {m p : Nat} {f : Nat → Nat} (h : p < m ∧ al (f p) ≠ 0) (h1 : ¬ (p + 1 < m ∧ isD (f (p + 1)) = true)) : wE m f p = some (p + 1) := by unfold wE; rw [if_neg (fun q => q h), if_pos h1]
theorem wE_2 {m p : Nat} {f : Nat → Nat} (h : p < m ∧ al (f p) ≠ 0) (h1 : p + 1 < m ∧ isD (f (p + 1)) = true) (h2 : al (f p) = 3 ∧ ¬ (p + 2 < m ∧ isD (f (p + 2)) = true ∧ ¬ (f p = 112 ∧ f (p + 2) = 48))) : wE m f p = some (p + 2) := by unfold wE; rw [if_neg (fun q => q h), if_neg (fun q => q h1), if_pos h2]
theorem wE_3 {m p : Nat} {f : Nat → Nat} (h : p < m ∧ al (f p) ≠ 0) (h1 : p + 1 < m ∧ isD (f (p + 1)) = true) (h2 : ¬ (al (f p) = 3 ∧ ¬ (p + 2 < m ∧ isD (f (p + 2)) = true ∧ ¬ (f p = 112 ∧ f (p + 2) = 48)))) : wE m f p = none := by unfold wE; rw [if_neg (fun q => q h), if_neg (fun q => q h1), if_neg h2]
theorem ki_le (c : Nat) : ki c ≤ 5 := by unfold ki; repeat (first | omega | split)
theorem ki_2 {c : Nat} (h : al c = 2) : ki c ≤ 2 := by
  unfold al at h
  by_cases c1 : c = 103 ∨ c = 107 ∨ c = 112
  · rw [if_pos c1] at h; omega
  · rw [if_neg c1] at h
    by_cases c2 : c = 110 ∨ c = 114 ∨ c = 115
    · rcases c2 with e | e | e <;> (rw [e]; decide)
    · rw [if_neg c2] at h; omega
theorem al_3 {c : Nat} (h : al c = 3) : c = 103 ∨ c = 107 ∨ c = 112 := by
  unfold al at h
  by_cases c1 : c = 103 ∨ c = 107 ∨ c = 112
  · exact c1
  · rw [if_neg c1] at h
    by_cases c2 : c = 110 ∨ c = 114 ∨ c = 115
    · rw [if_pos c2] at h; omega
    · rw [if_neg c2] at h; omega
def WkR (m k a : Nat) (f : Nat → Nat) (M s : Mem) : Prop := AtR a m f s ∧ s.1 169 34 = nI k ∧ (∀ i, i < k → s.1 186 i = nI (ki (f (wP f i))) ∧ s.1 187 i = nI (f (wP f i + 1) - 48) ∧ (al (f (wP f i)) = 3 → s.1 188 i = nI (f (wP f i + 2) - 48))) ∧ FrR (fun a => a = 186 ∨ a = 187 ∨ a = 188) (fun i => i = 9 ∨ i = 34) M s
theorem r_ra105 {N : Mem} {a m k lo : Nat} {f : Nat → Nat} (h : AtR a m f N) (hk : k < 60) (hlo : lo ≤ 1) : fX10_readsAct_105 (nI k) (nI lo) (nI k) N = if a < m ∧ 48 + lo ≤ f a ∧ f a ≤ 48 + 9 then some (1, sI (sI N 169 9 (nI (a + 1))) 188 k (nI (f a - 48))) else some (0, sI N 188 k (-1)) := by
  have hdg : fX10_digitIn (nI lo) 9 N = _ := r_digitIn (lo := lo) (hi := 9) h (by omega) (by omega)
  have hfl : fX10_flag (nI lo) N = some (nI lo, N) := r_flagI (by rcases (show lo = 0 ∨ lo = 1 by omega) with e | e <;> (rw [e]; decide))
  rw [e_X10_readsAct_105, hfl, bd_v, hdg]
  by_cases c : a < m ∧ 48 + lo ≤ f a ∧ f a ≤ 48 + 9
  · rw [if_pos c, if_pos c]
    have := c.2.2
    simp (disch := omega) only [↓reduceIte, ic_t, ic_f, not_true_eq_false, not_false_eq_true, ↓lt_v, rdR, rdE, rdS, leT, leTc, leTd, leF, leFc, leFd, ltT, ltTc, ltTd, ltF, ltFc, ltFd, eqT, eqTc, eqTd, eqF, eqFc, eqFd, m1T, m1F, m1T', m1F', inb_nI, ix_nI, inb_c, ix_c, nI_1, nI_pred, nI_m1, add_nIc, add_cnI, bd_v, reduceCtorEq, eqFcc, m1e0, m1e1, m1l0, m1g0, m2l0, m2g0, Int32.reduceLT, Int32.reduceLE, Int32.reduceAdd, Int32.reduceSub, Int32.reduceMul, eq_self, Bool.false_eq_true]
  · rw [if_neg c, if_neg c]
    simp (disch := omega) only [↓reduceIte, ic_t, ic_f, not_true_eq_false, not_false_eq_true, ↓lt_v, rdR, rdE, rdS, leT, leTc, leTd, leF, leFc, leFd, ltT, ltTc, ltTd, ltF, ltFc, ltFd, eqT, eqTc, eqTd, eqF, eqFc, eqFd, m1T, m1F, m1T', m1F', inb_nI, ix_nI, inb_c, ix_c, nI_1, nI_pred, nI_m1, add_nIc, add_cnI, bd_v, reduceCtorEq, eqFcc, m1e0, m1e1, m1l0, m1g0, m2l0, m2g0, Int32.reduceLT, Int32.reduceLE, Int32.reduceAdd, Int32.reduceSub, Int32.reduceMul, eq_self, Bool.false_eq_true]
theorem r_readsAct {m k p : Nat} {f : Nat → Nat} {M s : Mem} (hm : m ≤ 60) (hk : k < 60) (hp : p = wP f k) (h : WkR m k p f M s) : Ok (fX10_readsAct s) (fun q => (wE m f p = none ∧ q.1 = 1 ∧ WkR m (k + 1) (p + al (f p)) f M q.2) ∨ (q.1 = 0 ∧ ∃ e, wE m f p = some e ∧ AtR e m f q.2 ∧ FrR (fun a => a = 186 ∨ a = 187 ∨ a = 188) (fun i => i = 9 ∨ i = 34) M q.2)) := by
  obtain ⟨hA, h34, hd, hf⟩ := h
  have a4 := hA.2.2.2.1
  have hto := r_takesOf4 hA
  have h5 := ki_le (f p)
  rw [e_X10_readsAct]
  by_cases c1 : p < m ∧ al (f p) ≠ 0
  · rw [if_pos c1] at hto
    have bb := (hA.2.2.2.2 p c1.1).1
    have hA8 : AtR (p + 1) m f (sI (sI (sI s 169 9 (nI (p + 1))) 186 k (nI (ki (f p)))) 169 34 (nI (k + 1))) := atR_fr (atR_set hA (b := p + 1) (by omega)) (by simp (disch := omega) only [↓reduceIte, ic_t, ic_f, not_true_eq_false, not_false_eq_true, ↓lt_v, rdR, rdE, rdS, leT, leTc, leTd, leF, leFc, leFd, ltT, ltTc, ltTd, ltF, ltFc, ltFd, eqT, eqTc, eqTd, eqF, eqFc, eqFd, m1T, m1F, m1T', m1F', inb_nI, ix_nI, inb_c, ix_c, nI_1, nI_pred, nI_m1, add_nIc, add_cnI, bd_v, reduceCtorEq, eqFcc, m1e0, m1e1, m1l0, m1g0, m2l0, m2g0, Int32.reduceLT, Int32.reduceLE, Int32.reduceAdd, Int32.reduceSub, Int32.reduceMul, eq_self, Bool.false_eq_true]) (by simp (disch := omega) only [↓reduceIte, ic_t, ic_f, not_true_eq_false, not_false_eq_true, ↓lt_v, rdR, rdE, rdS, leT, leTc, leTd, leF, leFc, leFd, ltT, ltTc, ltTd, ltF, ltFc, ltFd, eqT, eqTc, eqTd, eqF, eqFc, eqFd, m1T, m1F, m1T', m1F', inb_nI, ix_nI, inb_c, ix_c, nI_1, nI_pred, nI_m1, add_nIc, add_cnI, bd_v, reduceCtorEq, eqFcc, m1e0, m1e1, m1l0, m1g0, m2l0, m2g0, Int32.reduceLT, Int32.reduceLE, Int32.reduceAdd, Int32.reduceSub, Int32.reduceMul, eq_self, Bool.false_eq_true]) (by simp (disch := omega) only [row_n])
    have hnm := r_number1 hA8
    by_cases c2 : p + 1 < m ∧ isD (f (p + 1)) = true
    · rw [if_pos c2] at hnm
      have i1 := isD_i c2.2
      rcases (al_c (f p)).resolve_left c1.2 with a2 | a2
      · have k2 := ki_2 a2
        have hn : wE m f p = none := wE_3 c1 c2 (fun q => by omega)
        simp (disch := omega) only [↓reduceIte, ic_t, ic_f, not_true_eq_false, not_false_eq_true, ↓lt_v, rdR, rdE, rdS, leT, leTc, leTd, leF, leFc, leFd, ltT, ltTc, ltTd, ltF, ltFc, ltFd, eqT, eqTc, eqTd, eqF, eqFc, eqFd, m1T, m1F, m1T', m1F', inb_nI, ix_nI, inb_c, ix_c, nI_1, nI_pred, nI_m1, add_nIc, add_cnI, bd_v, reduceCtorEq, eqFcc, m1e0, m1e1, m1l0, m1g0, m2l0, m2g0, Int32.reduceLT, Int32.reduceLE, Int32.reduceAdd, Int32.reduceSub, Int32.reduceMul, eq_self, Bool.false_eq_true, h34, hto, hnm]
        rw [e_X10_readsAct_69]
        simp (disch := omega) only [↓reduceIte, ic_t, ic_f, not_true_eq_false, not_false_eq_true, ↓lt_v, rdR, rdE, rdS, leT, leTc, leTd, leF, leFc, leFd, ltT, ltTc, ltTd, ltF, ltFc, ltFd, eqT, eqTc, eqTd, eqF, eqFc, eqFd, m1T, m1F, m1T', m1F', inb_nI, ix_nI, inb_c, ix_c, nI_1, nI_pred, nI_m1, add_nIc, add_cnI, bd_v, reduceCtorEq, eqFcc, m1e0, m1e1, m1l0, m1g0, m2l0, m2g0, Int32.reduceLT, Int32.reduceLE, Int32.reduceAdd, Int32.reduceSub, Int32.reduceMul, eq_self, Bool.false_eq_true]
        refine ok_some (Or.inl ⟨hn, rfl, ?_, ?_, fun i hi => ?_, frR_trans hf (by repeat (first | exact frR_rfl | refine frR_trans ?_ (frR_sI (by omega) (by omega))))⟩)
        · exact atR_fr (atR_set hA8 (b := p + al (f p)) (by omega)) (by simp (disch := omega) only [↓reduceIte, ic_t, ic_f, not_true_eq_false, not_false_eq_true, ↓lt_v, rdR, rdE, rdS, leT, leTc, leTd, leF, leFc, leFd, ltT, ltTc, ltTd, ltF, ltFc, ltFd, eqT, eqTc, eqTd, eqF, eqFc, eqFd, m1T, m1F, m1T', m1F', inb_nI, ix_nI, inb_c, ix_c, nI_1, nI_pred, nI_m1, add_nIc, add_cnI, bd_v, reduceCtorEq, eqFcc, m1e0, m1e1, m1l0, m1g0, m2l0, m2g0, Int32.reduceLT, Int32.reduceLE, Int32.reduceAdd, Int32.reduceSub, Int32.reduceMul, eq_self, Bool.false_eq_true, a2]) (by simp (disch := omega) only [↓reduceIte, ic_t, ic_f, not_true_eq_false, not_false_eq_true, ↓lt_v, rdR, rdE, rdS, leT, leTc, leTd, leF, leFc, leFd, ltT, ltTc, ltTd, ltF, ltFc, ltFd, eqT, eqTc, eqTd, eqF, eqFc, eqFd, m1T, m1F, m1T', m1F', inb_nI, ix_nI, inb_c, ix_c, nI_1, nI_pred, nI_m1, add_nIc, add_cnI, bd_v, reduceCtorEq, eqFcc, m1e0, m1e1, m1l0, m1g0, m2l0, m2g0, Int32.reduceLT, Int32.reduceLE, Int32.reduceAdd, Int32.reduceSub, Int32.reduceMul, eq_self, Bool.false_eq_true]) (by simp (disch := omega) only [row_n])
        · simp (disch := omega) only [↓reduceIte, ic_t, ic_f, not_true_eq_false, not_false_eq_true, ↓lt_v, rdR, rdE, rdS, leT, leTc, leTd, leF, leFc, leFd, ltT, ltTc, ltTd, ltF, ltFc, ltFd, eqT, eqTc, eqTd, eqF, eqFc, eqFd, m1T, m1F, m1T', m1F', inb_nI, ix_nI, inb_c, ix_c, nI_1, nI_pred, nI_m1, add_nIc, add_cnI, bd_v, reduceCtorEq, eqFcc, m1e0, m1e1, m1l0, m1g0, m2l0, m2g0, Int32.reduceLT, Int32.reduceLE, Int32.reduceAdd, Int32.reduceSub, Int32.reduceMul, eq_self, Bool.false_eq_true]
        · by_cases e : i = k
          · rw [e, ← hp]
            refine ⟨by simp (disch := omega) only [↓reduceIte, ic_t, ic_f, not_true_eq_false, not_false_eq_true, ↓lt_v, rdR, rdE, rdS, leT, leTc, leTd, leF, leFc, leFd, ltT, ltTc, ltTd, ltF, ltFc, ltFd, eqT, eqTc, eqTd, eqF, eqFc, eqFd, m1T, m1F, m1T', m1F', inb_nI, ix_nI, inb_c, ix_c, nI_1, nI_pred, nI_m1, add_nIc, add_cnI, bd_v, reduceCtorEq, eqFcc, m1e0, m1e1, m1l0, m1g0, m2l0, m2g0, Int32.reduceLT, Int32.reduceLE, Int32.reduceAdd, Int32.reduceSub, Int32.reduceMul, eq_self, Bool.false_eq_true], by simp (disch := omega) only [↓reduceIte, ic_t, ic_f, not_true_eq_false, not_false_eq_true, ↓lt_v, rdR, rdE, rdS, leT, leTc, leTd, leF, leFc, leFd, ltT, ltTc, ltTd, ltF, ltFc, ltFd, eqT, eqTc, eqTd, eqF, eqFc, eqFd, m1T, m1F, m1T', m1F', inb_nI, ix_nI, inb_c, ix_c, nI_1, nI_pred, nI_m1, add_nIc, add_cnI, bd_v, reduceCtorEq, eqFcc, m1e0, m1e1, m1l0, m1g0, m2l0, m2g0, Int32.reduceLT, Int32.reduceLE, Int32.reduceAdd, Int32.reduceSub, Int32.reduceMul, eq_self, Bool.false_eq_true], fun q => by omega⟩
          · have := hd i (by omega)
            simp (disch := omega) only [↓reduceIte, ic_t, ic_f, not_true_eq_false, not_false_eq_true, ↓lt_v, rdR, rdE, rdS, leT, leTc, leTd, leF, leFc, leFd, ltT, ltTc, ltTd, ltF, ltFc, ltFd, eqT, eqTc, eqTd, eqF, eqFc, eqFd, m1T, m1F, m1T', m1F', inb_nI, ix_nI, inb_c, ix_c, nI_1, nI_pred, nI_m1, add_nIc, add_cnI, bd_v, reduceCtorEq, eqFcc, m1e0, m1e1, m1l0, m1g0, m2l0, m2g0, Int32.reduceLT, Int32.reduceLE, Int32.reduceAdd, Int32.reduceSub, Int32.reduceMul, eq_self, Bool.false_eq_true]
            exact this
      · have k3 := al_3 a2
        have k4 : 3 ≤ ki (f p) ∧ (ki (f p) = 3 ↔ f p = 112) := by rcases k3 with e | e | e <;> (rw [e]; decide)
        have hA15 : AtR (p + 2) m f (sI (sI (sI (sI (sI s 169 9 (nI (p + 1))) 186 k (nI (ki (f p)))) 169 34 (nI (k + 1))) 169 9 (nI (p + 1 + 1))) 187 k (nI (f (p + 1) - 48))) := atR_fr (atR_set hA8 (b := p + 1 + 1) (by omega)) (by simp (disch := omega) only [↓reduceIte, ic_t, ic_f, not_true_eq_false, not_false_eq_true, ↓lt_v, rdR, rdE, rdS, leT, leTc, leTd, leF, leFc, leFd, ltT, ltTc, ltTd, ltF, ltFc, ltFd, eqT, eqTc, eqTd, eqF, eqFc, eqFd, m1T, m1F, m1T', m1F', inb_nI, ix_nI, inb_c, ix_c, nI_1, nI_pred, nI_m1, add_nIc, add_cnI, bd_v, reduceCtorEq, eqFcc, m1e0, m1e1, m1l0, m1g0, m2l0, m2g0, Int32.reduceLT, Int32.reduceLE, Int32.reduceAdd, Int32.reduceSub, Int32.reduceMul, eq_self, Bool.false_eq_true]) (by simp (disch := omega) only [↓reduceIte, ic_t, ic_f, not_true_eq_false, not_false_eq_true, ↓lt_v, rdR, rdE, rdS, leT, leTc, leTd, leF, leFc, leFd, ltT, ltTc, ltTd, ltF, ltFc, ltFd, eqT, eqTc, eqTd, eqF, eqFc, eqFd, m1T, m1F, m1T', m1F', inb_nI, ix_nI, inb_c, ix_c, nI_1, nI_pred, nI_m1, add_nIc, add_cnI, bd_v, reduceCtorEq, eqFcc, m1e0, m1e1, m1l0, m1g0, m2l0, m2g0, Int32.reduceLT, Int32.reduceLE, Int32.reduceAdd, Int32.reduceSub, Int32.reduceMul, eq_self, Bool.false_eq_true]) (by simp (disch := omega) only [row_n])
        have r105 : ∀ lo : Nat, lo = (if f p = 112 then 1 else 0) → Ok (fX10_readsAct_105 (nI k) (nI lo) (nI k) (sI (sI (sI (sI (sI s 169 9 (nI (p + 1))) 186 k (nI (ki (f p)))) 169 34 (nI (k + 1))) 169 9 (nI (p + 1 + 1))) 187 k (nI (f (p + 1) - 48)))) (fun q => (wE m f p = none ∧ q.1 = 1 ∧ WkR m (k + 1) (p + al (f p)) f M q.2) ∨ (q.1 = 0 ∧ ∃ e, wE m f p = some e ∧ AtR e m f q.2 ∧ FrR (fun a => a = 186 ∨ a = 187 ∨ a = 188) (fun i => i = 9 ∨ i = 34) M q.2)) := by
          intro lo hlo
          have hl1 : lo ≤ 1 := by rw [hlo]; split <;> omega
          have hl2 : f p = 112 → lo = 1 := fun e => by rw [hlo, if_pos e]
          have hl3 : f p ≠ 112 → lo = 0 := fun e => by rw [hlo, if_neg e]
          rw [r_ra105 hA15 hk hl1]
          by_cases c : p + 2 < m ∧ 48 + lo ≤ f (p + 2) ∧ f (p + 2) ≤ 48 + 9
          · rw [if_pos c]
            have hn : wE m f p = none := wE_3 c1 c2 (fun q => q.2 ⟨c.1, isD_t (by omega), fun z => by have := hl2 z.1; omega⟩)
            refine ok_some (Or.inl ⟨hn, rfl, ?_, ?_, fun i hi => ?_, frR_trans hf (by repeat (first | exact frR_rfl | refine frR_trans ?_ (frR_sI (by omega) (by omega))))⟩)
            · exact atR_fr (atR_set hA15 (b := p + al (f p)) (by omega)) (by simp (disch := omega) only [↓reduceIte, ic_t, ic_f, not_true_eq_false, not_false_eq_true, ↓lt_v, rdR, rdE, rdS, leT, leTc, leTd, leF, leFc, leFd, ltT, ltTc, ltTd, ltF, ltFc, ltFd, eqT, eqTc, eqTd, eqF, eqFc, eqFd, m1T, m1F, m1T', m1F', inb_nI, ix_nI, inb_c, ix_c, nI_1, nI_pred, nI_m1, add_nIc, add_cnI, bd_v, reduceCtorEq, eqFcc, m1e0, m1e1, m1l0, m1g0, m2l0, m2g0, Int32.reduceLT, Int32.reduceLE, Int32.reduceAdd, Int32.reduceSub, Int32.reduceMul, eq_self, Bool.false_eq_true, a2]) (by simp (disch := omega) only [↓reduceIte, ic_t, ic_f, not_true_eq_false, not_false_eq_true, ↓lt_v, rdR, rdE, rdS, leT, leTc, leTd, leF, leFc, leFd, ltT, ltTc, ltTd, ltF, ltFc, ltFd, eqT, eqTc, eqTd, eqF, eqFc, eqFd, m1T, m1F, m1T', m1F', inb_nI, ix_nI, inb_c, ix_c, nI_1, nI_pred, nI_m1, add_nIc, add_cnI, bd_v, reduceCtorEq, eqFcc, m1e0, m1e1, m1l0, m1g0, m2l0, m2g0, Int32.reduceLT, Int32.reduceLE, Int32.reduceAdd, Int32.reduceSub, Int32.reduceMul, eq_self, Bool.false_eq_true]) (by simp (disch := omega) only [row_n])
            · simp (disch := omega) only [↓reduceIte, ic_t, ic_f, not_true_eq_false, not_false_eq_true, ↓lt_v, rdR, rdE, rdS, leT, leTc, leTd, leF, leFc, leFd, ltT, ltTc, ltTd, ltF, ltFc, ltFd, eqT, eqTc, eqTd, eqF, eqFc, eqFd, m1T, m1F, m1T', m1F', inb_nI, ix_nI, inb_c, ix_c, nI_1, nI_pred, nI_m1, add_nIc, add_cnI, bd_v, reduceCtorEq, eqFcc, m1e0, m1e1, m1l0, m1g0, m2l0, m2g0, Int32.reduceLT, Int32.reduceLE, Int32.reduceAdd, Int32.reduceSub, Int32.reduceMul, eq_self, Bool.false_eq_true]
            · by_cases e : i = k
              · rw [e, ← hp]
                refine ⟨by simp (disch := omega) only [↓reduceIte, ic_t, ic_f, not_true_eq_false, not_false_eq_true, ↓lt_v, rdR, rdE, rdS, leT, leTc, leTd, leF, leFc, leFd, ltT, ltTc, ltTd, ltF, ltFc, ltFd, eqT, eqTc, eqTd, eqF, eqFc, eqFd, m1T, m1F, m1T', m1F', inb_nI, ix_nI, inb_c, ix_c, nI_1, nI_pred, nI_m1, add_nIc, add_cnI, bd_v, reduceCtorEq, eqFcc, m1e0, m1e1, m1l0, m1g0, m2l0, m2g0, Int32.reduceLT, Int32.reduceLE, Int32.reduceAdd, Int32.reduceSub, Int32.reduceMul, eq_self, Bool.false_eq_true], by simp (disch := omega) only [↓reduceIte, ic_t, ic_f, not_true_eq_false, not_false_eq_true, ↓lt_v, rdR, rdE, rdS, leT, leTc, leTd, leF, leFc, leFd, ltT, ltTc, ltTd, ltF, ltFc, ltFd, eqT, eqTc, eqTd, eqF, eqFc, eqFd, m1T, m1F, m1T', m1F', inb_nI, ix_nI, inb_c, ix_c, nI_1, nI_pred, nI_m1, add_nIc, add_cnI, bd_v, reduceCtorEq, eqFcc, m1e0, m1e1, m1l0, m1g0, m2l0, m2g0, Int32.reduceLT, Int32.reduceLE, Int32.reduceAdd, Int32.reduceSub, Int32.reduceMul, eq_self, Bool.false_eq_true], fun q => by simp (disch := omega) only [↓reduceIte, ic_t, ic_f, not_true_eq_false, not_false_eq_true, ↓lt_v, rdR, rdE, rdS, leT, leTc, leTd, leF, leFc, leFd, ltT, ltTc, ltTd, ltF, ltFc, ltFd, eqT, eqTc, eqTd, eqF, eqFc, eqFd, m1T, m1F, m1T', m1F', inb_nI, ix_nI, inb_c, ix_c, nI_1, nI_pred, nI_m1, add_nIc, add_cnI, bd_v, reduceCtorEq, eqFcc, m1e0, m1e1, m1l0, m1g0, m2l0, m2g0, Int32.reduceLT, Int32.reduceLE, Int32.reduceAdd, Int32.reduceSub, Int32.reduceMul, eq_self, Bool.false_eq_true]⟩
              · have := hd i (by omega)
                simp (disch := omega) only [↓reduceIte, ic_t, ic_f, not_true_eq_false, not_false_eq_true, ↓lt_v, rdR, rdE, rdS, leT, leTc, leTd, leF, leFc, leFd, ltT, ltTc, ltTd, ltF, ltFc, ltFd, eqT, eqTc, eqTd, eqF, eqFc, eqFd, m1T, m1F, m1T', m1F', inb_nI, ix_nI, inb_c, ix_c, nI_1, nI_pred, nI_m1, add_nIc, add_cnI, bd_v, reduceCtorEq, eqFcc, m1e0, m1e1, m1l0, m1g0, m2l0, m2g0, Int32.reduceLT, Int32.reduceLE, Int32.reduceAdd, Int32.reduceSub, Int32.reduceMul, eq_self, Bool.false_eq_true]
                exact this
          · rw [if_neg c]
            have hn : wE m f p = some (p + 2) := wE_2 c1 c2 ⟨a2, fun q => c ⟨q.1, by
              have := isD_i q.2.1
              by_cases z : f p = 112
              · have := hl2 z
                have : f (p + 2) ≠ 48 := fun y => q.2.2 ⟨z, y⟩
                omega
              · have := hl3 z
                omega⟩⟩
            refine ok_some (Or.inr ⟨rfl, p + 2, hn, ?_, frR_trans hf (by repeat (first | exact frR_rfl | refine frR_trans ?_ (frR_sI (by omega) (by omega))))⟩)
            exact atR_fr hA15 (by simp (disch := omega) only [↓reduceIte, ic_t, ic_f, not_true_eq_false, not_false_eq_true, ↓lt_v, rdR, rdE, rdS, leT, leTc, leTd, leF, leFc, leFd, ltT, ltTc, ltTd, ltF, ltFc, ltFd, eqT, eqTc, eqTd, eqF, eqFc, eqFd, m1T, m1F, m1T', m1F', inb_nI, ix_nI, inb_c, ix_c, nI_1, nI_pred, nI_m1, add_nIc, add_cnI, bd_v, reduceCtorEq, eqFcc, m1e0, m1e1, m1l0, m1g0, m2l0, m2g0, Int32.reduceLT, Int32.reduceLE, Int32.reduceAdd, Int32.reduceSub, Int32.reduceMul, eq_self, Bool.false_eq_true]) (by simp (disch := omega) only [↓reduceIte, ic_t, ic_f, not_true_eq_false, not_false_eq_true, ↓lt_v, rdR, rdE, rdS, leT, leTc, leTd, leF, leFc, leFd, ltT, ltTc, ltTd, ltF, ltFc, ltFd, eqT, eqTc, eqTd, eqF, eqFc, eqFd, m1T, m1F, m1T', m1F', inb_nI, ix_nI, inb_c, ix_c, nI_1, nI_pred, nI_m1, add_nIc, add_cnI, bd_v, reduceCtorEq, eqFcc, m1e0, m1e1, m1l0, m1g0, m2l0, m2g0, Int32.reduceLT, Int32.reduceLE, Int32.reduceAdd, Int32.reduceSub, Int32.reduceMul, eq_self, Bool.false_eq_true]) (by simp (disch := omega) only [row_n])
        by_cases z : f p = 112
        · have k5 := k4.2.2 z
          simp (disch := omega) only [↓reduceIte, ic_t, ic_f, not_true_eq_false, not_false_eq_true, ↓lt_v, rdR, rdE, rdS, leT, leTc, leTd, leF, leFc, leFd, ltT, ltTc, ltTd, ltF, ltFc, ltFd, eqT, eqTc, eqTd, eqF, eqFc, eqFd, m1T, m1F, m1T', m1F', inb_nI, ix_nI, inb_c, ix_c, nI_1, nI_pred, nI_m1, add_nIc, add_cnI, bd_v, reduceCtorEq, eqFcc, m1e0, m1e1, m1l0, m1g0, m2l0, m2g0, Int32.reduceLT, Int32.reduceLE, Int32.reduceAdd, Int32.reduceSub, Int32.reduceMul, eq_self, Bool.false_eq_true, h34, hto, hnm]
          exact r105 1 (by rw [if_pos z])
        · have k5 : ki (f p) ≠ 3 := fun q => z (k4.2.1 q)
          simp (disch := omega) only [↓reduceIte, ic_t, ic_f, not_true_eq_false, not_false_eq_true, ↓lt_v, rdR, rdE, rdS, leT, leTc, leTd, leF, leFc, leFd, ltT, ltTc, ltTd, ltF, ltFc, ltFd, eqT, eqTc, eqTd, eqF, eqFc, eqFd, m1T, m1F, m1T', m1F', inb_nI, ix_nI, inb_c, ix_c, nI_1, nI_pred, nI_m1, add_nIc, add_cnI, bd_v, reduceCtorEq, eqFcc, m1e0, m1e1, m1l0, m1g0, m2l0, m2g0, Int32.reduceLT, Int32.reduceLE, Int32.reduceAdd, Int32.reduceSub, Int32.reduceMul, eq_self, Bool.false_eq_true, h34, hto, hnm]
          exact r105 0 (by rw [if_neg z])
    · rw [if_neg c2] at hnm
      simp (disch := omega) only [↓reduceIte, ic_t, ic_f, not_true_eq_false, not_false_eq_true, ↓lt_v, rdR, rdE, rdS, leT, leTc, leTd, leF, leFc, leFd, ltT, ltTc, ltTd, ltF, ltFc, ltFd, eqT, eqTc, eqTd, eqF, eqFc, eqFd, m1T, m1F, m1T', m1F', inb_nI, ix_nI, inb_c, ix_c, nI_1, nI_pred, nI_m1, add_nIc, add_cnI, bd_v, reduceCtorEq, eqFcc, m1e0, m1e1, m1l0, m1g0, m2l0, m2g0, Int32.reduceLT, Int32.reduceLE, Int32.reduceAdd, Int32.reduceSub, Int32.reduceMul, eq_self, Bool.false_eq_true, h34, hto, hnm]
      rw [e_X10_readsAct_69]
      simp (disch := omega) only [↓reduceIte, ic_t, ic_f, not_true_eq_false, not_false_eq_true, ↓lt_v, rdR, rdE, rdS, leT, leTc, leTd, leF, leFc, leFd, ltT, ltTc, ltTd, ltF, ltFc, ltFd, eqT, eqTc, eqTd, eqF, eqFc, eqFd, m1T, m1F, m1T', m1F', inb_nI, ix_nI, inb_c, ix_c, nI_1, nI_pred, nI_m1, add_nIc, add_cnI, bd_v, reduceCtorEq, eqFcc, m1e0, m1e1, m1l0, m1g0, m2l0, m2g0, Int32.reduceLT, Int32.reduceLE, Int32.reduceAdd, Int32.reduceSub, Int32.reduceMul, eq_self, Bool.false_eq_true]
      refine ok_some (Or.inr ⟨rfl, p + 1, wE_1 c1 c2, ?_, frR_trans hf (by repeat (first | exact frR_rfl | refine frR_trans ?_ (frR_sI (by omega) (by omega))))⟩)
      exact atR_fr hA8 (by simp (disch := omega) only [↓reduceIte, ic_t, ic_f, not_true_eq_false, not_false_eq_true, ↓lt_v, rdR, rdE, rdS, leT, leTc, leTd, leF, leFc, leFd, ltT, ltTc, ltTd, ltF, ltFc, ltFd, eqT, eqTc, eqTd, eqF, eqFc, eqFd, m1T, m1F, m1T', m1F', inb_nI, ix_nI, inb_c, ix_c, nI_1, nI_pred, nI_m1, add_nIc, add_cnI, bd_v, reduceCtorEq, eqFcc, m1e0, m1e1, m1l0, m1g0, m2l0, m2g0, Int32.reduceLT, Int32.reduceLE, Int32.reduceAdd, Int32.reduceSub, Int32.reduceMul, eq_self, Bool.false_eq_true]) (by simp (disch := omega) only [↓reduceIte, ic_t, ic_f, not_true_eq_false, not_false_eq_true, ↓lt_v, rdR, rdE, rdS, leT, leTc, leTd, leF, leFc, leFd, ltT, ltTc, ltTd, ltF, ltFc, ltFd, eqT, eqTc, eqTd, eqF, eqFc, eqFd, m1T, m1F, m1T', m1F', inb_nI, ix_nI, inb_c, ix_c, nI_1, nI_pred, nI_m1, add_nIc, add_cnI, bd_v, reduceCtorEq, eqFcc, m1e0, m1e1, m1l0, m1g0, m2l0, m2g0, Int32.reduceLT, Int32.reduceLE, Int32.reduceAdd, Int32.reduceSub, Int32.reduceMul, eq_self, Bool.false_eq_true]) (by simp (disch := omega) only [row_n])
  · rw [if_neg c1] at hto
    simp (disch := omega) only [↓reduceIte, ic_t, ic_f, not_true_eq_false, not_false_eq_true, ↓lt_v, rdR, rdE, rdS, leT, leTc, leTd, leF, leFc, leFd, ltT, ltTc, ltTd, ltF, ltFc, ltFd, eqT, eqTc, eqTd, eqF, eqFc, eqFd, m1T, m1F, m1T', m1F', inb_nI, ix_nI, inb_c, ix_c, nI_1, nI_pred, nI_m1, add_nIc, add_cnI, bd_v, reduceCtorEq, eqFcc, m1e0, m1e1, m1l0, m1g0, m2l0, m2g0, Int32.reduceLT, Int32.reduceLE, Int32.reduceAdd, Int32.reduceSub, Int32.reduceMul, eq_self, Bool.false_eq_true, h34, hto]
    refine ok_some (Or.inr ⟨rfl, p, wE_0 c1, ?_, frR_trans hf (by repeat (first | exact frR_rfl | refine frR_trans ?_ (frR_sI (by omega) (by omega))))⟩)
    exact atR_fr hA (by simp (disch := omega) only [↓reduceIte, ic_t, ic_f, not_true_eq_false, not_false_eq_true, ↓lt_v, rdR, rdE, rdS, leT, leTc, leTd, leF, leFc, leFd, ltT, ltTc, ltTd, ltF, ltFc, ltFd, eqT, eqTc, eqTd, eqF, eqFc, eqFd, m1T, m1F, m1T', m1F', inb_nI, ix_nI, inb_c, ix_c, nI_1, nI_pred, nI_m1, add_nIc, add_cnI, bd_v, reduceCtorEq, eqFcc, m1e0, m1e1, m1l0, m1g0, m2l0, m2g0, Int32.reduceLT, Int32.reduceLE, Int32.reduceAdd, Int32.reduceSub, Int32.reduceMul, eq_self, Bool.false_eq_true]) (by simp (disch := omega) only [↓reduceIte, ic_t, ic_f, not_true_eq_false, not_false_eq_true, ↓lt_v, rdR, rdE, rdS, leT, leTc, leTd, leF, leFc, leFd, ltT, ltTc, ltTd, ltF, ltFc, ltFd, eqT, eqTc, eqTd, eqF, eqFc, eqFd, m1T, m1F, m1T', m1F', inb_nI, ix_nI, inb_c, ix_c, nI_1, nI_pred, nI_m1, add_nIc, add_cnI, bd_v, reduceCtorEq, eqFcc, m1e0, m1e1, m1l0, m1g0, m2l0, m2g0, Int32.reduceLT, Int32.reduceLE, Int32.reduceAdd, Int32.reduceSub, Int32.reduceMul, eq_self, Bool.false_eq_true]) (by simp (disch := omega) only [row_n])
theorem neg60 {b : Nat} (hb : b ≤ 60) : ((0 : Int32) ≤ -1 - nI b) = False := by
  have h1 : ∀ b, b < 31 → ¬ ((0 : Int32) ≤ -1 - nI b) := by decide
  have h2 : ∀ b, b < 30 → ¬ ((0 : Int32) ≤ -1 - nI (31 + b)) := by decide
  by_cases c : b < 31
  · exact eq_false (h1 b c)
  · have := h2 (b - 31) (by omega)
    rw [show 31 + (b - 31) = b by omega] at this
    exact eq_false this
theorem r_week42 {L a : Nat} {f : Nat → Nat} {s : Mem} {z : Bool} {Q : Int32 × Mem → Prop} (hL : L ≤ 80) (h : AtR a (min L 60) f s) (hA : L ≤ 60 → z = true → a = L → Ok ((fX10_putsBy s).bind fun q => fX10_week_64 FU 0 q) Q) (hB : ¬ (L ≤ 60 ∧ z = true ∧ a = L) → Q (-1 - nI a, s)) : Ok (fX10_week_42 (nI L) (bI z) s) Q := by
  have ha := h.2.2.2.1
  have hfo : fX10_faultOf (nI L) 60 (bI z) s = _ := r_faultOf (most := 60) (z := z) h hL (by omega)
  rw [e_X10_week_42, hfo, bd_v]
  by_cases c : L ≤ 60 ∧ z = true ∧ a = L
  · obtain ⟨c1, c2, c3⟩ := c
    rw [c2, show (true && decide (a = min L 60)) = true by rw [decide_eq_true (by omega)]; rfl, if_neg (by omega), if_pos rfl]
    simp (disch := omega) only [↓reduceIte, ic_t, ic_f, not_true_eq_false, not_false_eq_true, ↓lt_v, rdR, rdE, rdS, leT, leTc, leTd, leF, leFc, leFd, ltT, ltTc, ltTd, ltF, ltFc, ltFd, eqT, eqTc, eqTd, eqF, eqFc, eqFd, m1T, m1F, m1T', m1F', inb_nI, ix_nI, inb_c, ix_c, nI_1, nI_pred, nI_m1, add_nIc, add_cnI, bd_v, reduceCtorEq, eqFcc, m1e0, m1e1, m1l0, m1g0, m2l0, m2g0, Int32.reduceLT, Int32.reduceLE, Int32.reduceAdd, Int32.reduceSub, Int32.reduceMul, eq_self, Bool.false_eq_true]
    exact hA c1 c2 c3
  · have hx : (if 60 < L ∧ ((z && decide (a = min L 60)) = true ∨ 60 ≤ a) then -1 - nI 60 else if (z && decide (a = min L 60)) = true then 0 else -1 - nI a) = -1 - nI a := by
      by_cases c0 : (z && decide (a = min L 60)) = true
      · have c' := c0
        simp only [Bool.and_eq_true, decide_eq_true_eq] at c'
        by_cases c1 : 60 < L
        · rw [if_pos ⟨c1, Or.inl c0⟩, show a = 60 by omega]
        · exact absurd ⟨by omega, c'.1, by omega⟩ c
      · by_cases c1 : 60 < L ∧ 60 ≤ a
        · rw [if_pos ⟨c1.1, Or.inr c1.2⟩, show a = 60 by omega]
        · rw [if_neg (fun q => q.2.elim c0 (fun h => c1 ⟨q.1, h⟩)), if_neg c0]
    rw [hx]
    have := neg60 (b := a) (by omega)
    simp (disch := omega) only [↓reduceIte, ic_t, ic_f, not_true_eq_false, not_false_eq_true, ↓lt_v, rdR, rdE, rdS, leT, leTc, leTd, leF, leFc, leFd, ltT, ltTc, ltTd, ltF, ltFc, ltFd, eqT, eqTc, eqTd, eqF, eqFc, eqFd, m1T, m1F, m1T', m1F', inb_nI, ix_nI, inb_c, ix_c, nI_1, nI_pred, nI_m1, add_nIc, add_cnI, bd_v, reduceCtorEq, eqFcc, m1e0, m1e1, m1l0, m1g0, m2l0, m2g0, Int32.reduceLT, Int32.reduceLE, Int32.reduceAdd, Int32.reduceSub, Int32.reduceMul, eq_self, Bool.false_eq_true, this]
    exact ok_some (hB c)
theorem r_week19 {L K : Nat} {f : Nat → Nat} {N : Mem} {Q : Int32 × Mem → Prop} (hL : L ≤ 80) (hK : K ≤ 30) (hall : ∀ i, i < K → wE (min L 60) f (wP f i) = none ∧ wP f i < L) (hend : L ≤ wP f K ∨ (wP f K < L ∧ ∃ e, wE (min L 60) f (wP f K) = some e)) (hA : L ≤ wP f K → ∀ s, WkR (min L 60) K (wP f K) f N s → Ok ((fX10_putsBy s).bind fun q => fX10_week_64 FU 0 q) Q) (hB : ∀ e s, wP f K < L → wE (min L 60) f (wP f K) = some e → FrR (fun a => a = 186 ∨ a = 187 ∨ a = 188) (fun i => i = 9 ∨ i = 34) N s → Q (-1 - nI e, s)) : ∀ d k fu s, k + d = K → d + 3 ≤ fu → WkR (min L 60) k (wP f k) f N s → Ok (fX10_week_19 fu (nI L) 1 s) Q := by
  have hle := wP_le K (fun i hi => (hall i hi).1)
  intro d
  induction d with
  | zero =>
    intro k fu s hk hfu h
    have hk : k = K := hk
    subst hk
    have h' := h
    obtain ⟨⟨t1, t2, t3, t4, t5⟩, h34, hd, hf⟩ := h'
    obtain ⟨fu, rfl⟩ : ∃ m, fu = m + 1 + 1 := ⟨fu - 2, by omega⟩
    rw [e_X10_week_19]
    by_cases c : min L 60 ≤ wP f k
    · simp (disch := omega) only [↓reduceIte, ic_t, ic_f, not_true_eq_false, not_false_eq_true, ↓lt_v, rdR, rdE, rdS, leT, leTc, leTd, leF, leFc, leFd, ltT, ltTc, ltTd, ltF, ltFc, ltFd, eqT, eqTc, eqTd, eqF, eqFc, eqFd, m1T, m1F, m1T', m1F', inb_nI, ix_nI, inb_c, ix_c, nI_1, nI_pred, nI_m1, add_nIc, add_cnI, bd_v, reduceCtorEq, eqFcc, m1e0, m1e1, m1l0, m1g0, m2l0, m2g0, Int32.reduceLT, Int32.reduceLE, Int32.reduceAdd, Int32.reduceSub, Int32.reduceMul, eq_self, Bool.false_eq_true, t1, t2]
      refine r_week42 (z := true) hL h.1 (fun c1 _ c3 => hA (by omega) s h) (fun hn => ?_)
      have hl : wP f k < L := by
        by_cases q : wP f k < L
        · exact q
        · exact absurd ⟨by omega, rfl, by omega⟩ hn
      exact hB _ s hl (wE_0 (fun q => by omega)) hf
    · simp (disch := omega) only [↓reduceIte, ic_t, ic_f, not_true_eq_false, not_false_eq_true, ↓lt_v, rdR, rdE, rdS, leT, leTc, leTd, leF, leFc, leFd, ltT, ltTc, ltTd, ltF, ltFc, ltFd, eqT, eqTc, eqTd, eqF, eqFc, eqFd, m1T, m1F, m1T', m1F', inb_nI, ix_nI, inb_c, ix_c, nI_1, nI_pred, nI_m1, add_nIc, add_cnI, bd_v, reduceCtorEq, eqFcc, m1e0, m1e1, m1l0, m1g0, m2l0, m2g0, Int32.reduceLT, Int32.reduceLE, Int32.reduceAdd, Int32.reduceSub, Int32.reduceMul, eq_self, Bool.false_eq_true, t1, t2]
      refine ok_call (r_readsAct (by omega) (by omega) rfl h) (fun q g => ?_)
      rcases g with ⟨g1, _⟩ | ⟨g1, e, g2, g3, g4⟩
      · rcases hend with q | ⟨_, e, q⟩
        · omega
        · rw [g1] at q; cases q
      · rw [g1, e_X10_week_19]
        simp (disch := omega) only [↓reduceIte, ic_t, ic_f, not_true_eq_false, not_false_eq_true, ↓lt_v, rdR, rdE, rdS, leT, leTc, leTd, leF, leFc, leFd, ltT, ltTc, ltTd, ltF, ltFc, ltFd, eqT, eqTc, eqTd, eqF, eqFc, eqFd, m1T, m1F, m1T', m1F', inb_nI, ix_nI, inb_c, ix_c, nI_1, nI_pred, nI_m1, add_nIc, add_cnI, bd_v, reduceCtorEq, eqFcc, m1e0, m1e1, m1l0, m1g0, m2l0, m2g0, Int32.reduceLT, Int32.reduceLE, Int32.reduceAdd, Int32.reduceSub, Int32.reduceMul, eq_self, Bool.false_eq_true]
        exact r_week42 (z := false) hL g3 (fun _ q => Bool.noConfusion q) (fun _ => hB e _ (by omega) g2 g4)
  | succ d ih =>
    intro k fu s hk hfu h
    have h' := h
    obtain ⟨⟨t1, t2, t3, t4, t5⟩, h34, hd, hf⟩ := h'
    obtain ⟨fu, rfl⟩ : ∃ m, fu = m + 1 := ⟨fu - 1, by omega⟩
    have hn := (hall k (by omega)).1
    have hlt := (wE_none hn).1
    rw [e_X10_week_19]
    simp (disch := omega) only [↓reduceIte, ic_t, ic_f, not_true_eq_false, not_false_eq_true, ↓lt_v, rdR, rdE, rdS, leT, leTc, leTd, leF, leFc, leFd, ltT, ltTc, ltTd, ltF, ltFc, ltFd, eqT, eqTc, eqTd, eqF, eqFc, eqFd, m1T, m1F, m1T', m1F', inb_nI, ix_nI, inb_c, ix_c, nI_1, nI_pred, nI_m1, add_nIc, add_cnI, bd_v, reduceCtorEq, eqFcc, m1e0, m1e1, m1l0, m1g0, m2l0, m2g0, Int32.reduceLT, Int32.reduceLE, Int32.reduceAdd, Int32.reduceSub, Int32.reduceMul, eq_self, Bool.false_eq_true, t1, t2]
    refine ok_call (r_readsAct (by omega) (by omega) rfl h) (fun q g => ?_)
    rcases g with ⟨g1, g2, g3⟩ | ⟨g1, e, g2, g3, g4⟩
    · rw [g2]
      exact ih (k + 1) fu _ (by omega) (by omega) g3
    · rw [hn] at g2; cases g2
