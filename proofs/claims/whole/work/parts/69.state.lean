/-! PURE: days, undo, heard, forget, end -/
theorem rrel_all {S S' : SP} {M M' : Mem} (h : RRel S M) (e : S'.1.1 = S.1.1 ∧ S'.1.2.2 = S.1.2.2) (hw : WfV S'.1.1 S'.1.2.1) (e175 : M'.1 175 = M.1 175) (es : ∀ i, i = 3 ∨ i = 16 → M'.1 169 i = M.1 169 i) (hv : ∀ i, i < 22 → M'.1 171 i = S'.1.2.1.1 i) (ht : TxR S'.2.1.1 S'.2.1.2 M') (hrow : RwR S'.2.2.1 M') (hp : PsR S'.1.1 S'.2.2.2.1.1 S'.2.2.2.1.2 M') (hk : KpR S'.1.1 S'.2.2.2.2.1.1 S'.2.2.2.2.1.2 M') (hh : HR S'.2.2.2.2.2.1 S'.2.2.2.2.2.2.1 S'.2.2.2.2.2.2.2 M') : RRel S' M' := by
  obtain ⟨h1, h2, h3, h4, h5, h6⟩ := h
  refine ⟨⟨hw, ?_, hv, ?_⟩, ht, hrow, hp, hk, hh⟩
  · rw [es 3 (by omega), e.1]; exact h1.2.1
  · rw [e.2]; exact ruR_fr h1.2.2.2 e175 (es 16 (by omega))
theorem crel_all {S S' : SP} {M M' : Mem} (h : CRel S M) (e : S'.1.1 = S.1.1 ∧ S'.1.2.2 = S.1.2.2) (hw : WfV S'.1.1 S'.1.2.1) (er : M'.2.2 1 17 = M.2.2 1 17 ∧ M'.2.2 1 18 = M.2.2 1 18) (eu : M'.1 (M.2.2 1 17) = M.1 (M.2.2 1 17) ∧ M'.1 (M.2.2 1 17 + 1) = M.1 (M.2.2 1 17 + 1)) (hv : RvC 6 S'.1.1 S'.1.2.1 M') (ht : TxC S'.2.1.1 S'.2.1.2 M') (hrow : RwC S'.2.2.1 M') (hp : PsC S'.1.1 S'.2.2.2.1.1 S'.2.2.2.1.2 M') (hk : KpC S'.1.1 S'.2.2.2.2.1.1 S'.2.2.2.2.1.2 M') (hh : HC S'.2.2.2.2.2.1 S'.2.2.2.2.2.2.1 S'.2.2.2.2.2.2.2 M') (el : M'.1 115 = M.1 115 ∧ M'.1 137 = M.1 137) : CRel S' M' := by
  obtain ⟨h1, h2, h3, h4, h5, h6, h7, h8⟩ := h
  refine ⟨⟨hw, hv, ?_, rfl, by rw [er.1]; exact h1.2.2.2.2⟩, by rw [er.1, er.2]; exact h2, ht, hrow, hp, hk, hh, ?_⟩
  · rw [er.1, e.2]; exact ruC_fr h1.2.2.1 eu.1 eu.2
  · unfold LawP; rw [el.1, el.2]; exact h8
theorem txC_fr {L : Nat} {f : Nat → Nat} {M M' : Mem} (h : TxC L f M) (e2 : M'.1 2 = M.1 2) (e3 : M'.1 3 = M.1 3) : TxC L f M' := by unfold TxC; rw [e2, e3]; exact h
theorem rwC_fr {l : List Int64} {M M' : Mem} (h : RwC l M) (e2 : M'.1 4 = M.1 4) (e3 : M'.2.1 5 = M.2.1 5) : RwC l M' := by unfold RwC; rw [e2, e3]; exact h
theorem psC_fr {n P : Nat} {us : Nat → VV} {M M' : Mem} (h : PsC n P us M) (e : ∀ a, 26 ≤ a → a ≤ 102 → M'.1 a = M.1 a) (er : M'.2.2 27 = M.2.2 27) : PsC n P us M' := by
  unfold PsC
  rw [e 26 (by omega) (by omega), er]
  refine ⟨h.1, h.2.1, h.2.2.1, h.2.2.2.1, fun j hj => ?_⟩
  obtain ⟨c, hc, ec⟩ := h.2.2.1 j (by have := h.1; omega)
  exact rivC_fr (h.2.2.2.2 j hj) (fun a _ _ => e a (by omega) (by omega))
theorem kpC_fr {n : Nat} {ks : Nat → Bool} {kv : Nat → VV} {M M' : Mem} (h : KpC n ks kv M) (e : ∀ a, a = 104 ∨ (154 ≤ a ∧ a ≤ 168) → M'.1 a = M.1 a) (er : M'.2.2 103 = M.2.2 103) : KpC n ks kv M' := by
  unfold KpC
  rw [e 104 (by omega), er]
  exact fun i hi => ⟨(h i hi).1, fun hk => rivC_fr ((h i hi).2 hk) (fun a _ _ => e a (by omega))⟩
theorem hC_fr {h : Nat} {w u : Nat → Nat} {M M' : Mem} (hh : HC h w u M) (e : ∀ a, a = 105 ∨ a = 106 ∨ a = 107 → M'.1 a = M.1 a) : HC h w u M' := by
  unfold HC; rw [e 105 (by omega), e 106 (by omega), e 107 (by omega)]; exact hh
theorem txR_fr {L : Nat} {f : Nat → Nat} {M M' : Mem} (h : TxR L f M) (e2 : M'.1 169 8 = M.1 169 8) (e3 : M'.1 173 = M.1 173) : TxR L f M' := by unfold TxR; rw [e2, e3]; exact h
theorem rwR_fr {l : List Int64} {M M' : Mem} (h : RwR l M) (e2 : M'.1 169 1 = M.1 169 1) (e3 : M'.2.1 170 = M.2.1 170) : RwR l M' := by unfold RwR; rw [e2, e3]; exact h
theorem psR_fr {n P : Nat} {us : Nat → VV} {M M' : Mem} (h : PsR n P us M) (e2 : M'.1 169 28 = M.1 169 28) (e3 : M'.1 185 = M.1 185) : PsR n P us M' := by unfold PsR; rw [e2, e3]; exact h
theorem kpR_fr {n : Nat} {ks : Nat → Bool} {kv : Nat → VV} {M M' : Mem} (h : KpR n ks kv M) (e2 : M'.1 169 4 = M.1 169 4) (e : ∀ a, a = 202 ∨ a = 203 ∨ a = 204 → M'.1 a = M.1 a) : KpR n ks kv M' := by unfold KpR; rw [e2, e 202 (by omega), e 203 (by omega), e 204 (by omega)]; exact h
theorem hR_fr {h : Nat} {w u : Nat → Nat} {M M' : Mem} (hh : HR h w u M) (e2 : M'.1 169 45 = M.1 169 45) (e : ∀ a, a = 198 ∨ a = 199 → M'.1 a = M.1 a) : HR h w u M' := by unfold HR; rw [e2, e 198 (by omega), e 199 (by omega)]; exact hh
/-- one cell of the class, one of the reference -/
def S1 (P : Nat → Prop) (M M' : Mem) : Prop := (∀ a, ¬ P a → M'.1 a = M.1 a) ∧ (∀ a, ¬ P a → M'.2.1 a = M.2.1 a) ∧ (∀ a, ¬ P a → M'.2.2 a = M.2.2 a)
theorem st_forget {M : Mem} (h : Rel M) : StI (fun M => fX9_forget M) (fun M => fX10_forget M) M := by
  obtain ⟨S, hS, hc, hr⟩ := h
  have hR := hc.1.2.2.2.2
  refine st_gen (S := S) (S' := (S.1, S.2.1, S.2.2.1, S.2.2.2.1, S.2.2.2.2.1, (0, S.2.2.2.2.2.2))) (x := nI S.2.2.2.2.2.1) hS hr ?_ (fun M1 h1 => ?_)
  · show Ok (fX9_forget M) _
    rw [e_X9_forget]
    obtain ⟨h1, h2, h3, h4, h5, h6, h7, h8⟩ := hc
    have e := h7.2.1
    simp (disch := omega) only [↓reduceIte, ic_t, ic_f, not_true_eq_false, not_false_eq_true, ↓lt_v, rdR, rdE, rdS, leT, leTc, leTd, leF, leFc, leFd, ltT, ltTc, ltTd, ltF, ltFc, ltFd, eqT, eqTc, eqTd, eqF, eqFc, eqFd, m1T, m1F, m1T', m1F', inb_nI, ix_nI, inb_c, ix_c, nI_1, nI_pred, nI_m1, add_nIc, add_cnI, bd_v, reduceCtorEq, eqFcc, m1e0, m1e1, m1l0, m1g0, m2l0, m2g0, Int32.reduceLT, Int32.reduceLE, Int32.reduceAdd, Int32.reduceSub, Int32.reduceMul, eq_self, Bool.false_eq_true, e]
    refine ok_some ⟨rfl, crel_all ⟨h1, h2, h3, h4, h5, h6, h7, h8⟩ ⟨rfl, rfl⟩ h1.1 ⟨rfl, rfl⟩ ⟨row_n (by omega), row_n (by omega)⟩ (rivC_fr h1.2.1 (fun a _ _ => row_n (by omega))) (txC_fr h3 (row_n (by omega)) (row_n (by omega))) (rwC_fr h4 (row_n (by omega)) rfl) (psC_fr h5 (fun a _ _ => row_n (by omega)) rfl) (kpC_fr h6 (fun a ha => row_n (by omega)) rfl) ?_ ⟨row_n (by omega), row_n (by omega)⟩, fun a ha => ⟨row_n (by omega), rfl⟩⟩
    exact ⟨Nat.zero_le _, rdE rfl rfl, fun i hi => absurd hi (Nat.not_lt_zero _)⟩
  · show Ok (fX10_forget M1) _
    rw [e_X10_forget]
    have e := h1.2.2.2.2.2.2.1
    simp (disch := omega) only [↓reduceIte, ic_t, ic_f, not_true_eq_false, not_false_eq_true, ↓lt_v, rdR, rdE, rdS, leT, leTc, leTd, leF, leFc, leFd, ltT, ltTc, ltTd, ltF, ltFc, ltFd, eqT, eqTc, eqTd, eqF, eqFc, eqFd, m1T, m1F, m1T', m1F', inb_nI, ix_nI, inb_c, ix_c, nI_1, nI_pred, nI_m1, add_nIc, add_cnI, bd_v, reduceCtorEq, eqFcc, m1e0, m1e1, m1l0, m1g0, m2l0, m2g0, Int32.reduceLT, Int32.reduceLE, Int32.reduceAdd, Int32.reduceSub, Int32.reduceMul, eq_self, Bool.false_eq_true, e]
    obtain ⟨h1, h2, h3, h4, h5, h6⟩ := h1
    have ro : ∀ a, a ≠ 169 → (sI (sI M1 169 0 0) 169 45 0).1 a = M1.1 a := fun a ha => by rw [row_n ha, row_n ha]
    have sl : ∀ i, i ≠ 0 → i ≠ 45 → (sI (sI M1 169 0 0) 169 45 0).1 169 i = M1.1 169 i := fun i a b => by rw [rdS b, rdS a]
    exact ok_some ⟨rfl, rrel_all ⟨h1, h2, h3, h4, h5, h6⟩ ⟨rfl, rfl⟩ h1.1 (ro 175 (by omega)) (fun i hi => sl i (by omega) (by omega)) (fun i hi => by rw [ro 171 (by omega)]; exact h1.2.2.1 i hi) (txR_fr h2 (sl 8 (by omega) (by omega)) (ro 173 (by omega))) (rwR_fr h3 (sl 1 (by omega) (by omega)) rfl) (psR_fr h4 (sl 28 (by omega) (by omega)) (ro 185 (by omega))) (kpR_fr h5 (sl 4 (by omega) (by omega)) (fun a ha => ro a (by omega))) ⟨Nat.zero_le _, rdE rfl rfl, fun i hi => absurd hi (Nat.not_lt_zero _)⟩, fun a ha => ⟨ro a (by omega), rfl⟩, rfl⟩
theorem st_end {M : Mem} {x : Int32} (h : Rel M) : StI (fun M => fX9_end x M) (fun M => fX10_end x M) M := by
  obtain ⟨S, hS, hc, hr⟩ := h
  have hR := hc.1.2.2.2.2
  have h80 := hc.2.2.1.1
  have e21 := hc.2.2.1.2.1
  rcases range_cases x 0 S.2.1.1 (by omega) (by omega) with ⟨d, _, hd, rfl⟩ | ⟨hx, hx2⟩
  · refine st_gen (S := S) (S' := (S.1, (d, S.2.1.2), S.2.2)) (x := 1) hS hr ?_ (fun M1 h1 => ?_)
    · show Ok (fX9_end (nI d) M) _
      rw [e_X9_end]
      obtain ⟨h1, h2, h3, h4, h5, h6, h7, h8⟩ := hc
      simp (disch := omega) only [↓reduceIte, ic_t, ic_f, not_true_eq_false, not_false_eq_true, ↓lt_v, rdR, rdE, rdS, leT, leTc, leTd, leF, leFc, leFd, ltT, ltTc, ltTd, ltF, ltFc, ltFd, eqT, eqTc, eqTd, eqF, eqFc, eqFd, m1T, m1F, m1T', m1F', inb_nI, ix_nI, inb_c, ix_c, nI_1, nI_pred, nI_m1, add_nIc, add_cnI, bd_v, reduceCtorEq, eqFcc, m1e0, m1e1, m1l0, m1g0, m2l0, m2g0, Int32.reduceLT, Int32.reduceLE, Int32.reduceAdd, Int32.reduceSub, Int32.reduceMul, eq_self, Bool.false_eq_true, e21]
      exact ok_some ⟨rfl, crel_all ⟨h1, h2, h3, h4, h5, h6, h7, h8⟩ ⟨rfl, rfl⟩ h1.1 ⟨rfl, rfl⟩ ⟨row_n (by omega), row_n (by omega)⟩ (rivC_fr h1.2.1 (fun a _ _ => row_n (by omega))) ⟨by show d ≤ 80; omega, rdE rfl rfl, fun i hi => by rw [rdR (by omega)]; exact h3.2.2 i (by have hi : i < d := hi; omega)⟩ (rwC_fr h4 (row_n (by omega)) rfl) (psC_fr h5 (fun a _ _ => row_n (by omega)) rfl) (kpC_fr h6 (fun a ha => row_n (by omega)) rfl) (hC_fr h7 (fun a ha => row_n (by omega))) ⟨row_n (by omega), row_n (by omega)⟩, fun a ha => ⟨row_n (by omega), rfl⟩⟩
    · show Ok (fX10_end (nI d) M1) _
      have e8 : (sI M1 169 0 0).1 169 8 = nI S.2.1.1 := by simp (disch := omega) only [↓reduceIte, ic_t, ic_f, not_true_eq_false, not_false_eq_true, ↓lt_v, rdR, rdE, rdS, leT, leTc, leTd, leF, leFc, leFd, ltT, ltTc, ltTd, ltF, ltFc, ltFd, eqT, eqTc, eqTd, eqF, eqFc, eqFd, m1T, m1F, m1T', m1F', inb_nI, ix_nI, inb_c, ix_c, nI_1, nI_pred, nI_m1, add_nIc, add_cnI, bd_v, reduceCtorEq, eqFcc, m1e0, m1e1, m1l0, m1g0, m2l0, m2g0, Int32.reduceLT, Int32.reduceLE, Int32.reduceAdd, Int32.reduceSub, Int32.reduceMul, eq_self, Bool.false_eq_true, h1.2.1.2.1]
      have hi : fX10_in (nI d).toInt64 0 ((nI S.2.1.1).toInt64) (sI M1 169 0 0) = some (1, sI M1 169 0 0) := by rw [r_inI (lo := 0) (hi := (S.2.1.1 : Int)) (by decide) (by rw [Int32.toInt_toInt64, nI_toInt (by omega)]), nI_toInt (by omega), if_pos (by omega)]
      rw [e_X10_end]
      simp (disch := omega) only [↓reduceIte, ic_t, ic_f, not_true_eq_false, not_false_eq_true, ↓lt_v, rdR, rdE, rdS, leT, leTc, leTd, leF, leFc, leFd, ltT, ltTc, ltTd, ltF, ltFc, ltFd, eqT, eqTc, eqTd, eqF, eqFc, eqFd, m1T, m1F, m1T', m1F', inb_nI, ix_nI, inb_c, ix_c, nI_1, nI_pred, nI_m1, add_nIc, add_cnI, bd_v, reduceCtorEq, eqFcc, m1e0, m1e1, m1l0, m1g0, m2l0, m2g0, Int32.reduceLT, Int32.reduceLE, Int32.reduceAdd, Int32.reduceSub, Int32.reduceMul, eq_self, Bool.false_eq_true, h1.2.1.2.1, hi]
      obtain ⟨h1, h2, h3, h4, h5, h6⟩ := h1
      have ro : ∀ a, a ≠ 169 → (sI (sI M1 169 0 0) 169 8 (nI d)).1 a = M1.1 a := fun a ha => by rw [row_n ha, row_n ha]
      have sl : ∀ i, i ≠ 0 → i ≠ 8 → (sI (sI M1 169 0 0) 169 8 (nI d)).1 169 i = M1.1 169 i := fun i a b => by rw [rdS b, rdS a]
      exact ok_some ⟨rfl, rrel_all ⟨h1, h2, h3, h4, h5, h6⟩ ⟨rfl, rfl⟩ h1.1 (ro 175 (by omega)) (fun i hi => sl i (by omega) (by omega)) (fun i hi => by rw [ro 171 (by omega)]; exact h1.2.2.1 i hi) ⟨by show d ≤ 80; omega, rdE rfl rfl, fun i hi => by rw [ro 173 (by omega)]; exact h2.2.2 i (by have hi : i < d := hi; omega)⟩ (rwR_fr h3 (sl 1 (by omega) (by omega)) rfl) (psR_fr h4 (sl 28 (by omega) (by omega)) (ro 185 (by omega))) (kpR_fr h5 (sl 4 (by omega) (by omega)) (fun a ha => ro a (by omega))) (hR_fr h6 (sl 45 (by omega) (by omega)) (fun a ha => ro a (by omega))), fun a ha => ⟨ro a (by omega), rfl⟩, rfl⟩
  · refine st_no (x := 0) hS hc hr ?_ (fun M1 h1 => ?_)
    · show fX9_end x M = _
      rw [e_X9_end]
      by_cases y0 : x < 0
      · simp (disch := omega) only [↓reduceIte, ic_t, ic_f, not_true_eq_false, not_false_eq_true, ↓lt_v, rdR, rdE, rdS, leT, leTc, leTd, leF, leFc, leFd, ltT, ltTc, ltTd, ltF, ltFc, ltFd, eqT, eqTc, eqTd, eqF, eqFc, eqFd, m1T, m1F, m1T', m1F', inb_nI, ix_nI, inb_c, ix_c, nI_1, nI_pred, nI_m1, add_nIc, add_cnI, bd_v, reduceCtorEq, eqFcc, m1e0, m1e1, m1l0, m1g0, m2l0, m2g0, Int32.reduceLT, Int32.reduceLE, Int32.reduceAdd, Int32.reduceSub, Int32.reduceMul, eq_self, Bool.false_eq_true, eq_true y0]
      · rcases hx2 with q | q
        · exact absurd q y0
        · simp (disch := omega) only [↓reduceIte, ic_t, ic_f, not_true_eq_false, not_false_eq_true, ↓lt_v, rdR, rdE, rdS, leT, leTc, leTd, leF, leFc, leFd, ltT, ltTc, ltTd, ltF, ltFc, ltFd, eqT, eqTc, eqTd, eqF, eqFc, eqFd, m1T, m1F, m1T', m1F', inb_nI, ix_nI, inb_c, ix_c, nI_1, nI_pred, nI_m1, add_nIc, add_cnI, bd_v, reduceCtorEq, eqFcc, m1e0, m1e1, m1l0, m1g0, m2l0, m2g0, Int32.reduceLT, Int32.reduceLE, Int32.reduceAdd, Int32.reduceSub, Int32.reduceMul, eq_self, Bool.false_eq_true, eq_false y0, e21, gt_nle q]
    · show fX10_end x M1 = _
      have hi : fX10_in x.toInt64 0 ((nI S.2.1.1).toInt64) (sI M1 169 0 0) = some (0, sI M1 169 0 0) := in_no (lo := 0) (hi := (S.2.1.1 : Int)) (by decide) (by rw [Int32.toInt_toInt64, nI_toInt (by omega)]) hx
      rw [e_X10_end]
      simp (disch := omega) only [↓reduceIte, ic_t, ic_f, not_true_eq_false, not_false_eq_true, ↓lt_v, rdR, rdE, rdS, leT, leTc, leTd, leF, leFc, leFd, ltT, ltTc, ltTd, ltF, ltFc, ltFd, eqT, eqTc, eqTd, eqF, eqFc, eqFd, m1T, m1F, m1T', m1F', inb_nI, ix_nI, inb_c, ix_c, nI_1, nI_pred, nI_m1, add_nIc, add_cnI, bd_v, reduceCtorEq, eqFcc, m1e0, m1e1, m1l0, m1g0, m2l0, m2g0, Int32.reduceLT, Int32.reduceLE, Int32.reduceAdd, Int32.reduceSub, Int32.reduceMul, eq_self, Bool.false_eq_true, h1.2.1.2.1, hi]
