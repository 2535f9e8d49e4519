/-! PURE: signs of the text; boats -/
def isD (c : Nat) : Bool := decide (48 ≤ c ∧ c ≤ 57)
theorem c_signAt {M : Mem} {L p : Nat} {f : Nat → Nat} (h : TxC L f M) (hp : p < 2 ^ 30) : fX8_signAt (nI p) M = some (if p < L then nI (f p) else -1, M) := by
  have e := h.2.1
  have h80 := h.1
  rw [e_X8_signAt]
  by_cases c : p < L
  · have := (h.2.2 p c).2
    simp (disch := omega) only [↓reduceIte, ic_t, ic_f, not_true_eq_false, not_false_eq_true, ↓lt_v, rdR, rdE, rdS, leT, leTc, leTd, leF, leFc, leFd, ltT, ltTc, ltTd, ltF, ltFc, ltFd, eqT, eqTc, eqTd, eqF, eqFc, eqFd, m1T, m1F, m1T', m1F', inb_nI, ix_nI, inb_c, ix_c, nI_1, nI_pred, nI_m1, add_nIc, add_cnI, bd_v, reduceCtorEq, eqFcc, m1e0, m1e1, m1l0, m1g0, m2l0, m2g0, Int32.reduceLT, Int32.reduceLE, Int32.reduceAdd, Int32.reduceSub, Int32.reduceMul, eq_self, Bool.false_eq_true, e, this]
    rw [if_pos c]
  · simp (disch := omega) only [↓reduceIte, ic_t, ic_f, not_true_eq_false, not_false_eq_true, ↓lt_v, rdR, rdE, rdS, leT, leTc, leTd, leF, leFc, leFd, ltT, ltTc, ltTd, ltF, ltFc, ltFd, eqT, eqTc, eqTd, eqF, eqFc, eqFd, m1T, m1F, m1T', m1F', inb_nI, ix_nI, inb_c, ix_c, nI_1, nI_pred, nI_m1, add_nIc, add_cnI, bd_v, reduceCtorEq, eqFcc, m1e0, m1e1, m1l0, m1g0, m2l0, m2g0, Int32.reduceLT, Int32.reduceLE, Int32.reduceAdd, Int32.reduceSub, Int32.reduceMul, eq_self, Bool.false_eq_true, e]
    rw [if_neg c]
theorem isD_t {c : Nat} (h : 48 ≤ c ∧ c ≤ 57) : isD c = true := decide_eq_true h
theorem isD_f {c : Nat} (h : ¬ (48 ≤ c ∧ c ≤ 57)) : isD c = false := decide_eq_false h
theorem isD_i {c : Nat} (h : isD c = true) : 48 ≤ c ∧ c ≤ 57 := of_decide_eq_true h
theorem dig_of {c : Nat} {M : Mem} (hc : c < 256) : ic (nI c < 48) (some ((-1 : Int32), M)) (ic ((57 : Int32) < nI c) (some (-1, M)) (some (nI c - 48, M))) = some (if isD c = true then nI (c - 48) else -1, M) := by
  by_cases d : 48 ≤ c ∧ c ≤ 57
  · rw [isD_t d, if_pos rfl, ic_neg (show ¬ nI c < 48 from nI_nlt d.1 (by omega)), ic_neg (show ¬ (57 : Int32) < nI c from nI_nlt (a := 57) d.2 (by decide)), sub_nIc d.1]
  · rw [isD_f d]
    by_cases d1 : c < 48
    · rw [ic_pos (show nI c < 48 from nI_lt (b := 48) d1 (by decide))]; rfl
    · rw [ic_neg (show ¬ nI c < 48 from nI_nlt (Nat.le_of_not_lt d1) (by omega)), ic_pos (show (57 : Int32) < nI c from nI_lt (a := 57) (by omega) (by omega))]; rfl
theorem c_digitAt {M : Mem} {L p : Nat} {f : Nat → Nat} (h : TxC L f M) (hp : p < 2 ^ 30) : fX8_digitAt (nI p) M = some (if p < L ∧ isD (f p) = true then nI (f p - 48) else -1, M) := by
  rw [e_X8_digitAt, c_signAt h hp, bd_v]
  by_cases c : p < L
  · have hb := (h.2.2 p c).1
    rw [if_pos c]
    refine (dig_of hb).trans ?_
    by_cases d : isD (f p) = true
    · rw [if_pos d, if_pos ⟨c, d⟩]
    · rw [if_neg d, if_neg (fun q => d q.2)]
  · rw [if_neg c, if_neg (fun q => c q.1)]
    exact ic_pos (show (-1 : Int32) < 48 by decide)
/-- a sign may stand in a text of boats -/
def fl (room : Nat) (f : Nat → Nat) (p : Nat) : Bool := if p % 3 = 0 then decide (p / 3 < room) && (isD (f p) && decide (f p ≠ 48)) else if p % 3 = 1 then isD (f p) else decide (f p = 59)
def bF (L room : Nat) (f : Nat → Nat) : Nat := if nx (fun p => !(fl room f p)) (min L 17) (min L 17) = 0 then min L 17 else nx (fun p => !(fl room f p)) (min L 17) (min L 17) - 1
def bOK (L room : Nat) (f : Nat → Nat) : Prop := L = 0 ∨ (L ≤ 17 ∧ bF L room f = L ∧ L % 3 = 2)
theorem bF_le {L room : Nat} {f : Nat → Nat} : bF L room f ≤ min L 17 := by
  have := nx_le (fun p => !(fl room f p)) (min L 17) (min L 17) (Nat.le_refl _)
  unfold bF
  split <;> omega
theorem bF_all {L room p : Nat} {f : Nat → Nat} (h : p < bF L room f) : fl room f p = true := by
  have hle := bF_le (L := L) (room := room) (f := f)
  by_cases hz : ∃ q, q ≤ p ∧ fl room f q = false
  · exfalso
    obtain ⟨q, hq, e⟩ := hz
    have : ∃ q, q ≤ p ∧ fl room f q = false ∧ ∀ i, i < q → fl room f i = true := by
      clear h hle
      induction q using Nat.strongRecOn with
      | _ q ih =>
        by_cases hz : ∃ i, i < q ∧ fl room f i = false
        · obtain ⟨i, hi, ei⟩ := hz
          exact ih i hi (by omega) ei
        · refine ⟨q, hq, e, fun i hi => ?_⟩
          cases hc : fl room f i
          · exact absurd ⟨i, hi, hc⟩ hz
          · rfl
    obtain ⟨q, hq, e, hall⟩ := this
    have := nx1 (G := fun p => !(fl room f p)) (m := min L 17) (k := q) (by omega) (by simp [e]) (fun j hj => by simp [hall j hj])
    unfold bF at h
    rw [this] at h
    simp at h
    omega
  · cases hc : fl room f p
    · exact absurd ⟨p, Nat.le_refl _, hc⟩ hz
    · rfl
theorem bF_at {L room : Nat} {f : Nat → Nat} (h : bF L room f < min L 17) : fl room f (bF L room f) = false := by
  unfold bF at h ⊢
  by_cases hz : nx (fun p => !(fl room f p)) (min L 17) (min L 17) = 0
  · rw [if_pos hz] at h; omega
  · rw [if_neg hz]
    have : ∀ d, d ≤ min L 17 → nx (fun p => !(fl room f p)) (min L 17) d ≠ 0 → fl room f (nx (fun p => !(fl room f p)) (min L 17) d - 1) = false := by
      intro d
      induction d with
      | zero => intro _ h; exact absurd rfl h
      | succ d ih =>
        intro hd hne
        unfold nx at hne ⊢
        cases hc : fl room f (min L 17 - (d + 1))
        · simp only [hc, Bool.not_false, if_true, Nat.add_sub_cancel]
        · simp only [hc, Bool.not_true, Bool.false_eq_true, if_false] at hne ⊢
          exact ih (by omega) hne
    exact this _ (Nat.le_refl _) hz
theorem bF_first {L room q : Nat} {f : Nat → Nat} (hq : q < min L 17) (e : fl room f q = false) (hall : ∀ i, i < q → fl room f i = true) : bF L room f = q := by
  unfold bF
  rw [nx1 (G := fun p => !(fl room f p)) hq (by simp [e]) (fun j hj => by simp [hall j hj])]
  simp
theorem bF_none {L room : Nat} {f : Nat → Nat} (hall : ∀ i, i < min L 17 → fl room f i = true) : bF L room f = min L 17 := by
  unfold bF
  rw [nx0 (fun j hj => by simp [hall j hj])]
  simp
theorem c_fitsLine {M : Mem} {L p room : Nat} {f : Nat → Nat} (h : TxC L f M) (hp : p < L) (hr : room ≤ 6) : fX9_fitsLine (nI p) (nI room) M = some (bI (fl room f p), M) := by
  have h80 := h.1
  have hd := c_digitAt (p := p) h (by omega)
  have hs := c_signAt (p := p) h (by omega)
  have hb := (h.2.2 p hp).1
  have r3 : nI p - nI p / 3 * 3 = nI (p % 3) := pk_rem (d := 3) (by omega) (by omega) (by omega)
  have d3 : nI p / 3 = nI (p / 3) := pk_div (d := 3) (by omega) (by omega) (by omega)
  rw [e_X9_fitsLine]
  simp only [lt_v]
  rw [r3]
  unfold fl
  by_cases p0 : p % 3 = 0
  · rw [if_pos p0]
    by_cases hro : p / 3 < room
    · simp (disch := omega) only [↓reduceIte, ic_t, ic_f, not_true_eq_false, not_false_eq_true, ↓lt_v, rdR, rdE, rdS, leT, leTc, leTd, leF, leFc, leFd, ltT, ltTc, ltTd, ltF, ltFc, ltFd, eqT, eqTc, eqTd, eqF, eqFc, eqFd, m1T, m1F, m1T', m1F', inb_nI, ix_nI, inb_c, ix_c, nI_1, nI_pred, nI_m1, add_nIc, add_cnI, bd_v, reduceCtorEq, eqFcc, m1e0, m1e1, m1l0, m1g0, m2l0, m2g0, Int32.reduceLT, Int32.reduceLE, Int32.reduceAdd, Int32.reduceSub, Int32.reduceMul, eq_self, Bool.false_eq_true, d3, hd]
      rw [decide_eq_true hro]
      by_cases c : isD (f p) = true
      · rw [if_pos ⟨hp, c⟩, c]
        have c' := isD_i c
        by_cases z : f p = 48
        · simp (disch := omega) only [↓reduceIte, ic_t, ic_f, not_true_eq_false, not_false_eq_true, ↓lt_v, rdR, rdE, rdS, leT, leTc, leTd, leF, leFc, leFd, ltT, ltTc, ltTd, ltF, ltFc, ltFd, eqT, eqTc, eqTd, eqF, eqFc, eqFd, m1T, m1F, m1T', m1F', inb_nI, ix_nI, inb_c, ix_c, nI_1, nI_pred, nI_m1, add_nIc, add_cnI, bd_v, reduceCtorEq, eqFcc, m1e0, m1e1, m1l0, m1g0, m2l0, m2g0, Int32.reduceLT, Int32.reduceLE, Int32.reduceAdd, Int32.reduceSub, Int32.reduceMul, eq_self, Bool.false_eq_true]
          simp [z, bI]
        · simp (disch := omega) only [↓reduceIte, ic_t, ic_f, not_true_eq_false, not_false_eq_true, ↓lt_v, rdR, rdE, rdS, leT, leTc, leTd, leF, leFc, leFd, ltT, ltTc, ltTd, ltF, ltFc, ltFd, eqT, eqTc, eqTd, eqF, eqFc, eqFd, m1T, m1F, m1T', m1F', inb_nI, ix_nI, inb_c, ix_c, nI_1, nI_pred, nI_m1, add_nIc, add_cnI, bd_v, reduceCtorEq, eqFcc, m1e0, m1e1, m1l0, m1g0, m2l0, m2g0, Int32.reduceLT, Int32.reduceLE, Int32.reduceAdd, Int32.reduceSub, Int32.reduceMul, eq_self, Bool.false_eq_true]
          simp [z, bI]
      · have m10 : ((-1 : Int32) ≤ 0) = True := by decide
        rw [if_neg (fun q => c q.2)]
        simp (disch := omega) only [↓reduceIte, ic_t, ic_f, not_true_eq_false, not_false_eq_true, ↓lt_v, rdR, rdE, rdS, leT, leTc, leTd, leF, leFc, leFd, ltT, ltTc, ltTd, ltF, ltFc, ltFd, eqT, eqTc, eqTd, eqF, eqFc, eqFd, m1T, m1F, m1T', m1F', inb_nI, ix_nI, inb_c, ix_c, nI_1, nI_pred, nI_m1, add_nIc, add_cnI, bd_v, reduceCtorEq, eqFcc, m1e0, m1e1, m1l0, m1g0, m2l0, m2g0, Int32.reduceLT, Int32.reduceLE, Int32.reduceAdd, Int32.reduceSub, Int32.reduceMul, eq_self, Bool.false_eq_true, m10]
        simp at c
        simp [c, bI]
    · simp (disch := omega) only [↓reduceIte, ic_t, ic_f, not_true_eq_false, not_false_eq_true, ↓lt_v, rdR, rdE, rdS, leT, leTc, leTd, leF, leFc, leFd, ltT, ltTc, ltTd, ltF, ltFc, ltFd, eqT, eqTc, eqTd, eqF, eqFc, eqFd, m1T, m1F, m1T', m1F', inb_nI, ix_nI, inb_c, ix_c, nI_1, nI_pred, nI_m1, add_nIc, add_cnI, bd_v, reduceCtorEq, eqFcc, m1e0, m1e1, m1l0, m1g0, m2l0, m2g0, Int32.reduceLT, Int32.reduceLE, Int32.reduceAdd, Int32.reduceSub, Int32.reduceMul, eq_self, Bool.false_eq_true, d3]
      rw [decide_eq_false hro]
      rfl
  · rw [if_neg p0]
    by_cases p1 : p % 3 = 1
    · simp (disch := omega) only [↓reduceIte, ic_t, ic_f, not_true_eq_false, not_false_eq_true, ↓lt_v, rdR, rdE, rdS, leT, leTc, leTd, leF, leFc, leFd, ltT, ltTc, ltTd, ltF, ltFc, ltFd, eqT, eqTc, eqTd, eqF, eqFc, eqFd, m1T, m1F, m1T', m1F', inb_nI, ix_nI, inb_c, ix_c, nI_1, nI_pred, nI_m1, add_nIc, add_cnI, bd_v, reduceCtorEq, eqFcc, m1e0, m1e1, m1l0, m1g0, m2l0, m2g0, Int32.reduceLT, Int32.reduceLE, Int32.reduceAdd, Int32.reduceSub, Int32.reduceMul, eq_self, Bool.false_eq_true, hd]
      rw [if_pos p1]
      by_cases c : isD (f p) = true
      · rw [if_pos ⟨hp, c⟩, c]
        have c' := isD_i c
        simp (disch := omega) only [↓reduceIte, ic_t, ic_f, not_true_eq_false, not_false_eq_true, ↓lt_v, rdR, rdE, rdS, leT, leTc, leTd, leF, leFc, leFd, ltT, ltTc, ltTd, ltF, ltFc, ltFd, eqT, eqTc, eqTd, eqF, eqFc, eqFd, m1T, m1F, m1T', m1F', inb_nI, ix_nI, inb_c, ix_c, nI_1, nI_pred, nI_m1, add_nIc, add_cnI, bd_v, reduceCtorEq, eqFcc, m1e0, m1e1, m1l0, m1g0, m2l0, m2g0, Int32.reduceLT, Int32.reduceLE, Int32.reduceAdd, Int32.reduceSub, Int32.reduceMul, eq_self, Bool.false_eq_true]
        rfl
      · rw [if_neg (fun q => c q.2)]
        simp (disch := omega) only [↓reduceIte, ic_t, ic_f, not_true_eq_false, not_false_eq_true, ↓lt_v, rdR, rdE, rdS, leT, leTc, leTd, leF, leFc, leFd, ltT, ltTc, ltTd, ltF, ltFc, ltFd, eqT, eqTc, eqTd, eqF, eqFc, eqFd, m1T, m1F, m1T', m1F', inb_nI, ix_nI, inb_c, ix_c, nI_1, nI_pred, nI_m1, add_nIc, add_cnI, bd_v, reduceCtorEq, eqFcc, m1e0, m1e1, m1l0, m1g0, m2l0, m2g0, Int32.reduceLT, Int32.reduceLE, Int32.reduceAdd, Int32.reduceSub, Int32.reduceMul, eq_self, Bool.false_eq_true]
        simp at c
        rw [c]
        rfl
    · simp (disch := omega) only [↓reduceIte, ic_t, ic_f, not_true_eq_false, not_false_eq_true, ↓lt_v, rdR, rdE, rdS, leT, leTc, leTd, leF, leFc, leFd, ltT, ltTc, ltTd, ltF, ltFc, ltFd, eqT, eqTc, eqTd, eqF, eqFc, eqFd, m1T, m1F, m1T', m1F', inb_nI, ix_nI, inb_c, ix_c, nI_1, nI_pred, nI_m1, add_nIc, add_cnI, bd_v, reduceCtorEq, eqFcc, m1e0, m1e1, m1l0, m1g0, m2l0, m2g0, Int32.reduceLT, Int32.reduceLE, Int32.reduceAdd, Int32.reduceSub, Int32.reduceMul, eq_self, Bool.false_eq_true, hs]
      rw [if_neg p1, if_pos hp]
      by_cases c : f p = 59
      · simp (disch := omega) only [↓reduceIte, ic_t, ic_f, not_true_eq_false, not_false_eq_true, ↓lt_v, rdR, rdE, rdS, leT, leTc, leTd, leF, leFc, leFd, ltT, ltTc, ltTd, ltF, ltFc, ltFd, eqT, eqTc, eqTd, eqF, eqFc, eqFd, m1T, m1F, m1T', m1F', inb_nI, ix_nI, inb_c, ix_c, nI_1, nI_pred, nI_m1, add_nIc, add_cnI, bd_v, reduceCtorEq, eqFcc, m1e0, m1e1, m1l0, m1g0, m2l0, m2g0, Int32.reduceLT, Int32.reduceLE, Int32.reduceAdd, Int32.reduceSub, Int32.reduceMul, eq_self, Bool.false_eq_true]
        simp [c, bI]
      · simp (disch := omega) only [↓reduceIte, ic_t, ic_f, not_true_eq_false, not_false_eq_true, ↓lt_v, rdR, rdE, rdS, leT, leTc, leTd, leF, leFc, leFd, ltT, ltTc, ltTd, ltF, ltFc, ltFd, eqT, eqTc, eqTd, eqF, eqFc, eqFd, m1T, m1F, m1T', m1F', inb_nI, ix_nI, inb_c, ix_c, nI_1, nI_pred, nI_m1, add_nIc, add_cnI, bd_v, reduceCtorEq, eqFcc, m1e0, m1e1, m1l0, m1g0, m2l0, m2g0, Int32.reduceLT, Int32.reduceLE, Int32.reduceAdd, Int32.reduceSub, Int32.reduceMul, eq_self, Bool.false_eq_true]
        simp [c, bI]
theorem c_boatsFault {M : Mem} {L n : Nat} {f : Nat → Nat} (hn : n ≤ 6) (h : TxC L f M) (h6 : M.1 6 0 = nI n) : Ok (fX9_boatsFault M) (fun q => q.2 = M ∧ ((bOK L (6 - n) f ∧ q.1 = -1) ∨ (¬ bOK L (6 - n) f ∧ q.1 = nI (bF L (6 - n) f)))) := by
  have h80 := h.1
  have e2 := h.2.1
  have hle := bF_le (L := L) (room := 6 - n) (f := f)
  have r6 : (6 : Int32) - nI n = nI (6 - n) := by rw [show (6 : Int32) = nI 6 from rfl]; exact pk_sub hn
  rw [e_X9_boatsFault]
  simp only [lt_v]
  rw [h6, r6]
  have hFU : 2000 < FU := FU_big
  generalize FU = fu0 at hFU ⊢
  refine ok_loop (bF L (6 - n) f) (fun fu k s => fX9_boatsFault_13 fu (nI (6 - n)) (nI k) s) (fun k s => s = M) ?_ ?_ fu0 0 M (by omega) (by omega) rfl
  · intro fu k s hk hs ih
    subst hs
    have hf := c_fitsLine (p := k) (room := 6 - n) h (by omega) (by omega)
    have := bF_all hk
    rw [this] at hf
    have b1 : bI true = 1 := rfl
    rw [e_X9_boatsFault_13]
    simp (disch := omega) only [↓reduceIte, ic_t, ic_f, not_true_eq_false, not_false_eq_true, ↓lt_v, rdR, rdE, rdS, leT, leTc, leTd, leF, leFc, leFd, ltT, ltTc, ltTd, ltF, ltFc, ltFd, eqT, eqTc, eqTd, eqF, eqFc, eqFd, m1T, m1F, m1T', m1F', inb_nI, ix_nI, inb_c, ix_c, nI_1, nI_pred, nI_m1, add_nIc, add_cnI, bd_v, reduceCtorEq, eqFcc, m1e0, m1e1, m1l0, m1g0, m2l0, m2g0, Int32.reduceLT, Int32.reduceLE, Int32.reduceAdd, Int32.reduceSub, Int32.reduceMul, eq_self, Bool.false_eq_true, e2, hf, b1]
    exact ih _ rfl
  · intro fu s hs
    subst hs
    rw [e_X9_boatsFault_13]
    by_cases hlt : bF L (6 - n) f < min L 17
    · have hf := c_fitsLine (p := bF L (6 - n) f) (room := 6 - n) h (by omega) (by omega)
      rw [bF_at hlt] at hf
      have b0 : bI false = 0 := rfl
      simp (disch := omega) only [↓reduceIte, ic_t, ic_f, not_true_eq_false, not_false_eq_true, ↓lt_v, rdR, rdE, rdS, leT, leTc, leTd, leF, leFc, leFd, ltT, ltTc, ltTd, ltF, ltFc, ltFd, eqT, eqTc, eqTd, eqF, eqFc, eqFd, m1T, m1F, m1T', m1F', inb_nI, ix_nI, inb_c, ix_c, nI_1, nI_pred, nI_m1, add_nIc, add_cnI, bd_v, reduceCtorEq, eqFcc, m1e0, m1e1, m1l0, m1g0, m2l0, m2g0, Int32.reduceLT, Int32.reduceLE, Int32.reduceAdd, Int32.reduceSub, Int32.reduceMul, eq_self, Bool.false_eq_true, e2, hf, b0]
      refine ok_some ⟨rfl, Or.inr ⟨fun q => ?_, rfl⟩⟩
      rcases q with q | q
      · omega
      · omega
    · have hm : bF L (6 - n) f = min L 17 := by omega
      by_cases hL : L ≤ 17
      · have hb : bF L (6 - n) f = L := by omega
        rw [hb]
        have r3 : nI L - nI L / 3 * 3 = nI (L % 3) := pk_rem (d := 3) (by omega) (by omega) (by omega)
        by_cases l0 : L = 0
        · simp (disch := omega) only [↓reduceIte, ic_t, ic_f, not_true_eq_false, not_false_eq_true, ↓lt_v, rdR, rdE, rdS, leT, leTc, leTd, leF, leFc, leFd, ltT, ltTc, ltTd, ltF, ltFc, ltFd, eqT, eqTc, eqTd, eqF, eqFc, eqFd, m1T, m1F, m1T', m1F', inb_nI, ix_nI, inb_c, ix_c, nI_1, nI_pred, nI_m1, add_nIc, add_cnI, bd_v, reduceCtorEq, eqFcc, m1e0, m1e1, m1l0, m1g0, m2l0, m2g0, Int32.reduceLT, Int32.reduceLE, Int32.reduceAdd, Int32.reduceSub, Int32.reduceMul, eq_self, Bool.false_eq_true, e2]
          exact ok_some ⟨rfl, Or.inl ⟨Or.inl l0, rfl⟩⟩
        · by_cases l2 : L % 3 = 2
          · simp (disch := omega) only [↓reduceIte, ic_t, ic_f, not_true_eq_false, not_false_eq_true, ↓lt_v, rdR, rdE, rdS, leT, leTc, leTd, leF, leFc, leFd, ltT, ltTc, ltTd, ltF, ltFc, ltFd, eqT, eqTc, eqTd, eqF, eqFc, eqFd, m1T, m1F, m1T', m1F', inb_nI, ix_nI, inb_c, ix_c, nI_1, nI_pred, nI_m1, add_nIc, add_cnI, bd_v, reduceCtorEq, eqFcc, m1e0, m1e1, m1l0, m1g0, m2l0, m2g0, Int32.reduceLT, Int32.reduceLE, Int32.reduceAdd, Int32.reduceSub, Int32.reduceMul, eq_self, Bool.false_eq_true, e2, r3]
            exact ok_some ⟨rfl, Or.inl ⟨Or.inr ⟨hL, hb, l2⟩, rfl⟩⟩
          · simp (disch := omega) only [↓reduceIte, ic_t, ic_f, not_true_eq_false, not_false_eq_true, ↓lt_v, rdR, rdE, rdS, leT, leTc, leTd, leF, leFc, leFd, ltT, ltTc, ltTd, ltF, ltFc, ltFd, eqT, eqTc, eqTd, eqF, eqFc, eqFd, m1T, m1F, m1T', m1F', inb_nI, ix_nI, inb_c, ix_c, nI_1, nI_pred, nI_m1, add_nIc, add_cnI, bd_v, reduceCtorEq, eqFcc, m1e0, m1e1, m1l0, m1g0, m2l0, m2g0, Int32.reduceLT, Int32.reduceLE, Int32.reduceAdd, Int32.reduceSub, Int32.reduceMul, eq_self, Bool.false_eq_true, e2, r3]
            exact ok_some ⟨rfl, Or.inr ⟨fun q => q.elim l0 (fun q => l2 q.2.2), rfl⟩⟩
      · have hb : bF L (6 - n) f = 17 := by omega
        rw [hb]
        simp (disch := omega) only [↓reduceIte, ic_t, ic_f, not_true_eq_false, not_false_eq_true, ↓lt_v, rdR, rdE, rdS, leT, leTc, leTd, leF, leFc, leFd, ltT, ltTc, ltTd, ltF, ltFc, ltFd, eqT, eqTc, eqTd, eqF, eqFc, eqFd, m1T, m1F, m1T', m1F', inb_nI, ix_nI, inb_c, ix_c, nI_1, nI_pred, nI_m1, add_nIc, add_cnI, bd_v, reduceCtorEq, eqFcc, m1e0, m1e1, m1l0, m1g0, m2l0, m2g0, Int32.reduceLT, Int32.reduceLE, Int32.reduceAdd, Int32.reduceSub, Int32.reduceMul, eq_self, Bool.false_eq_true, e2]
        exact ok_some ⟨rfl, Or.inr ⟨fun q => q.elim (by omega) (fun q => by omega), rfl⟩⟩
