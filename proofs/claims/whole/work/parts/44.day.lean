/-! PURE: rivers of the class; a day -/
theorem has_in {M : Mem} {r n b : Nat} (hb : M.1 r 0 = nI n) (hn : n ≤ 6) (h : b < n) : fX4_has r (nI b) M = some (1, M) := by
  rw [e_X4_has]
  simp (disch := omega) only [↓reduceIte, ic_t, ic_f, not_true_eq_false, not_false_eq_true, ↓lt_v, rdR, rdE, rdS, leT, leTc, leTd, leF, leFc, leFd, ltT, ltTc, ltTd, ltF, ltFc, ltFd, eqT, eqTc, eqTd, eqF, eqFc, eqFd, m1T, m1F, m1T', m1F', inb_nI, ix_nI, inb_c, ix_c, nI_1, nI_pred, nI_m1, add_nIc, add_cnI, bd_v, reduceCtorEq, eqFcc, m1e0, m1e1, m1l0, m1g0, m2l0, m2g0, Int32.reduceLT, Int32.reduceLE, Int32.reduceAdd, Int32.reduceSub, Int32.reduceMul, eq_self, Bool.false_eq_true, hb]
theorem has_out {M : Mem} {r n : Nat} {x : Int32} (hb : M.1 r 0 = nI n) (h : x < 0 ∨ nI n ≤ x) : fX4_has r x M = some (0, M) := by
  rw [e_X4_has, hb]
  rcases h with h | h
  · rw [ic_pos h]
  · by_cases h0 : x < 0
    · rw [ic_pos h0]
    · rw [ic_neg h0, ic_pos h]
theorem in_cases (x : Int32) {n : Nat} (hn : n < 2 ^ 31) : (∃ b, b < n ∧ x = nI b) ∨ (x < 0 ∨ nI n ≤ x) := by
  by_cases h0 : x < 0
  · exact Or.inr (Or.inl h0)
  · obtain ⟨j, hj, rfl⟩ := nI_of h0
    rcases Nat.lt_or_ge j n with h | h
    · exact Or.inl ⟨j, h, rfl⟩
    · exact Or.inr (Or.inr (nI_le h hj))
def swp (x y : Nat) (v : (Nat → Int32) × (Nat → Nat)) : (Nat → Int32) × (Nat → Nat) :=
  (up1 (up1 v.1 (12 + x) (v.1 (12 + y))) (12 + y) (v.1 (12 + x)), up1 (up1 v.2 (ix (v.1 (12 + y))) x) (ix (v.1 (12 + x))) y)
def sws (A B : Nat → Int32) : Nat → (Nat → Int32) × (Nat → Nat) → (Nat → Int32) × (Nat → Nat)
  | 0, v => v
  | i + 1, v => swp (ix (A i)) (ix (B i)) (sws A B i v)
theorem up1_e {α : Type} {f : Nat → α} {k j : Nat} {v : α} (h : j = k) : up1 f k v j = v := if_pos h
theorem up1_n {α : Type} {f : Nat → α} {k j : Nat} {v : α} (h : j ≠ k) : up1 f k v j = f j := if_neg h
theorem wf_inj {n : Nat} {w : Nat → Int32} {o : Nat → Nat} (h : Wf n w o) {a b : Nat} (ha : a < n) (hb : b < n) (e : o a = o b) : a = b := by
  have h1 := (h.2.1 a ha).2
  have h2 := (h.2.1 b hb).2
  rw [e, h2, eq_nI (by have := h.1; omega) (by have := h.1; omega)] at h1
  exact h1.symm
theorem wf_swp {n : Nat} {w : Nat → Int32} {o : Nat → Nat} (h : Wf n w o) {x y : Nat} (hx : x < n) (hy : y < n) : Wf n (swp x y (w, o)).1 (swp x y (w, o)).2 := by
  obtain ⟨a, ha, rfl⟩ := h.2.2.1 x hx
  obtain ⟨b, hb, rfl⟩ := h.2.2.1 y hy
  have hn := h.1
  have wa := (h.2.1 a ha).2
  have wb := (h.2.1 b hb).2
  have oe : ∀ k, (swp (o a) (o b) (w, o)).2 k = if k = a then o b else if k = b then o a else o k := by
    intro k
    unfold swp
    simp (disch := omega) only [↓reduceIte, ic_t, ic_f, not_true_eq_false, not_false_eq_true, ↓lt_v, rdR, rdE, rdS, leT, leTc, leTd, leF, leFc, leFd, ltT, ltTc, ltTd, ltF, ltFc, ltFd, eqT, eqTc, eqTd, eqF, eqFc, eqFd, m1T, m1F, m1T', m1F', inb_nI, ix_nI, inb_c, ix_c, nI_1, nI_pred, nI_m1, add_nIc, add_cnI, bd_v, reduceCtorEq, eqFcc, m1e0, m1e1, m1l0, m1g0, m2l0, m2g0, Int32.reduceLT, Int32.reduceLE, Int32.reduceAdd, Int32.reduceSub, Int32.reduceMul, eq_self, Bool.false_eq_true, wa, wb]
    unfold up1
    rfl
  have we : ∀ i, (swp (o a) (o b) (w, o)).1 i = if i = 12 + o b then nI a else if i = 12 + o a then nI b else w i := by
    intro i
    unfold swp
    simp (disch := omega) only [↓reduceIte, ic_t, ic_f, not_true_eq_false, not_false_eq_true, ↓lt_v, rdR, rdE, rdS, leT, leTc, leTd, leF, leFc, leFd, ltT, ltTc, ltTd, ltF, ltFc, ltFd, eqT, eqTc, eqTd, eqF, eqFc, eqFd, m1T, m1F, m1T', m1F', inb_nI, ix_nI, inb_c, ix_c, nI_1, nI_pred, nI_m1, add_nIc, add_cnI, bd_v, reduceCtorEq, eqFcc, m1e0, m1e1, m1l0, m1g0, m2l0, m2g0, Int32.reduceLT, Int32.reduceLE, Int32.reduceAdd, Int32.reduceSub, Int32.reduceMul, eq_self, Bool.false_eq_true, wa, wb]
    unfold up1
    rfl
  refine ⟨hn, fun k hk => ?_, fun c hc => ?_, ?_, ?_⟩
  · rw [oe]
    by_cases e1 : k = a
    · subst e1
      rw [if_pos rfl, we, if_pos rfl]
      exact ⟨hy, rfl⟩
    · rw [if_neg e1]
      by_cases e2 : k = b
      · subst e2
        have : o k ≠ o a := fun q => e1 (wf_inj h hk ha q)
        rw [if_pos rfl, we, if_neg (by omega), if_pos rfl]
        exact ⟨hx, rfl⟩
      · have h1 : o k ≠ o a := fun q => e1 (wf_inj h hk ha q)
        have h2 : o k ≠ o b := fun q => e2 (wf_inj h hk hb q)
        rw [if_neg e2, we, if_neg (by omega), if_neg (by omega)]
        exact h.2.1 k hk
  · obtain ⟨k, hk, rfl⟩ := h.2.2.1 c hc
    by_cases e1 : k = a
    · subst e1
      refine ⟨b, hb, ?_⟩
      rw [oe]
      by_cases e3 : b = k
      · subst e3; simp
      · rw [if_neg e3, if_pos rfl]
    · by_cases e2 : k = b
      · exact ⟨a, ha, by rw [oe, if_pos rfl, e2]⟩
      · exact ⟨k, hk, by rw [oe, if_neg e1, if_neg e2]⟩
  · rw [we, if_neg (by omega), if_neg (by omega)]; exact h.2.2.2.1
  · rw [we, if_neg (by omega), if_neg (by omega)]; exact h.2.2.2.2
theorem rd_put {M : Mem} {r n b k : Nat} (hb : M.1 r 0 = nI n) (hn : n ≤ 6) (h : b < n) (hk : k < n) : fX4_put r (nI b) (nI k) M = some (sI (sI M (r + 3) b (nI k)) (r + 4) k (nI b)) := by
  have := has_in hb hn h
  rw [e_X4_put]
  simp (disch := omega) only [↓reduceIte, ic_t, ic_f, not_true_eq_false, not_false_eq_true, ↓lt_v, rdR, rdE, rdS, leT, leTc, leTd, leF, leFc, leFd, ltT, ltTc, ltTd, ltF, ltFc, ltFd, eqT, eqTc, eqTd, eqF, eqFc, eqFd, m1T, m1F, m1T', m1F', inb_nI, ix_nI, inb_c, ix_c, nI_1, nI_pred, nI_m1, add_nIc, add_cnI, bd_v, reduceCtorEq, eqFcc, m1e0, m1e1, m1l0, m1g0, m2l0, m2g0, Int32.reduceLT, Int32.reduceLE, Int32.reduceAdd, Int32.reduceSub, Int32.reduceMul, eq_self, Bool.false_eq_true, this, hb]
theorem c_change {M : Mem} {r n x y : Nat} {w : Nat → Int32} {o : Nat → Nat} (hw : Wf n w o) (hv : RivC r n w o M) (hx : x < n) (hy : y < n) :
    Ok (fX4_changePlaces r (nI x) (nI y) M) (fun M' => RivC r n (swp x y (w, o)).1 (swp x y (w, o)).2 M' ∧ Fr (fun a => a = r + 3 ∨ a = r + 4) M M') := by
  have hn := hw.1
  obtain ⟨v1, v2, v3, v4, v5, v6, v7, v8, v9⟩ := hv
  obtain ⟨a, ha, rfl⟩ := hw.2.2.1 x hx
  obtain ⟨b, hb, rfl⟩ := hw.2.2.1 y hy
  have wa := (hw.2.1 a ha).2
  have wb := (hw.2.1 b hb).2
  have h1 := has_in v1 hn hx
  have h2 := has_in v1 hn hy
  rw [e_X4_changePlaces]
  simp (disch := omega) only [↓reduceIte, ic_t, ic_f, not_true_eq_false, not_false_eq_true, ↓lt_v, rdR, rdE, rdS, leT, leTc, leTd, leF, leFc, leFd, ltT, ltTc, ltTd, ltF, ltFc, ltFd, eqT, eqTc, eqTd, eqF, eqFc, eqFd, m1T, m1F, m1T', m1F', inb_nI, ix_nI, inb_c, ix_c, nI_1, nI_pred, nI_m1, add_nIc, add_cnI, bd_v, reduceCtorEq, eqFcc, m1e0, m1e1, m1l0, m1g0, m2l0, m2g0, Int32.reduceLT, Int32.reduceLE, Int32.reduceAdd, Int32.reduceSub, Int32.reduceMul, eq_self, Bool.false_eq_true, h1, h2, v4, wa, wb]
  rw [rd_put v1 hn hx hb]
  simp (disch := omega) only [↓reduceIte, ic_t, ic_f, not_true_eq_false, not_false_eq_true, ↓lt_v, rdR, rdE, rdS, leT, leTc, leTd, leF, leFc, leFd, ltT, ltTc, ltTd, ltF, ltFc, ltFd, eqT, eqTc, eqTd, eqF, eqFc, eqFd, m1T, m1F, m1T', m1F', inb_nI, ix_nI, inb_c, ix_c, nI_1, nI_pred, nI_m1, add_nIc, add_cnI, bd_v, reduceCtorEq, eqFcc, m1e0, m1e1, m1l0, m1g0, m2l0, m2g0, Int32.reduceLT, Int32.reduceLE, Int32.reduceAdd, Int32.reduceSub, Int32.reduceMul, eq_self, Bool.false_eq_true]
  rw [rd_put (n := n) (by simp (disch := omega) only [↓reduceIte, ic_t, ic_f, not_true_eq_false, not_false_eq_true, ↓lt_v, rdR, rdE, rdS, leT, leTc, leTd, leF, leFc, leFd, ltT, ltTc, ltTd, ltF, ltFc, ltFd, eqT, eqTc, eqTd, eqF, eqFc, eqFd, m1T, m1F, m1T', m1F', inb_nI, ix_nI, inb_c, ix_c, nI_1, nI_pred, nI_m1, add_nIc, add_cnI, bd_v, reduceCtorEq, eqFcc, m1e0, m1e1, m1l0, m1g0, m2l0, m2g0, Int32.reduceLT, Int32.reduceLE, Int32.reduceAdd, Int32.reduceSub, Int32.reduceMul, eq_self, Bool.false_eq_true, v1]) hn hy ha]
  simp (disch := omega) only [↓reduceIte, ic_t, ic_f, not_true_eq_false, not_false_eq_true, ↓lt_v, rdR, rdE, rdS, leT, leTc, leTd, leF, leFc, leFd, ltT, ltTc, ltTd, ltF, ltFc, ltFd, eqT, eqTc, eqTd, eqF, eqFc, eqFd, m1T, m1F, m1T', m1F', inb_nI, ix_nI, inb_c, ix_c, nI_1, nI_pred, nI_m1, add_nIc, add_cnI, bd_v, reduceCtorEq, eqFcc, m1e0, m1e1, m1l0, m1g0, m2l0, m2g0, Int32.reduceLT, Int32.reduceLE, Int32.reduceAdd, Int32.reduceSub, Int32.reduceMul, eq_self, Bool.false_eq_true]
  refine ok_some ⟨⟨?_, ?_, ?_, ?_, ?_, ?_, ?_, ?_, ?_⟩, ?_⟩
  · simp (disch := omega) only [↓reduceIte, ic_t, ic_f, not_true_eq_false, not_false_eq_true, ↓lt_v, rdR, rdE, rdS, leT, leTc, leTd, leF, leFc, leFd, ltT, ltTc, ltTd, ltF, ltFc, ltFd, eqT, eqTc, eqTd, eqF, eqFc, eqFd, m1T, m1F, m1T', m1F', inb_nI, ix_nI, inb_c, ix_c, nI_1, nI_pred, nI_m1, add_nIc, add_cnI, bd_v, reduceCtorEq, eqFcc, m1e0, m1e1, m1l0, m1g0, m2l0, m2g0, Int32.reduceLT, Int32.reduceLE, Int32.reduceAdd, Int32.reduceSub, Int32.reduceMul, eq_self, Bool.false_eq_true, v1]
  · intro c hc
    simp (disch := omega) only [↓reduceIte, ic_t, ic_f, not_true_eq_false, not_false_eq_true, ↓lt_v, rdR, rdE, rdS, leT, leTc, leTd, leF, leFc, leFd, ltT, ltTc, ltTd, ltF, ltFc, ltFd, eqT, eqTc, eqTd, eqF, eqFc, eqFd, m1T, m1F, m1T', m1F', inb_nI, ix_nI, inb_c, ix_c, nI_1, nI_pred, nI_m1, add_nIc, add_cnI, bd_v, reduceCtorEq, eqFcc, m1e0, m1e1, m1l0, m1g0, m2l0, m2g0, Int32.reduceLT, Int32.reduceLE, Int32.reduceAdd, Int32.reduceSub, Int32.reduceMul, eq_self, Bool.false_eq_true, v2, swp, up1_n]
  · intro c hc
    simp (disch := omega) only [↓reduceIte, ic_t, ic_f, not_true_eq_false, not_false_eq_true, ↓lt_v, rdR, rdE, rdS, leT, leTc, leTd, leF, leFc, leFd, ltT, ltTc, ltTd, ltF, ltFc, ltFd, eqT, eqTc, eqTd, eqF, eqFc, eqFd, m1T, m1F, m1T', m1F', inb_nI, ix_nI, inb_c, ix_c, nI_1, nI_pred, nI_m1, add_nIc, add_cnI, bd_v, reduceCtorEq, eqFcc, m1e0, m1e1, m1l0, m1g0, m2l0, m2g0, Int32.reduceLT, Int32.reduceLE, Int32.reduceAdd, Int32.reduceSub, Int32.reduceMul, eq_self, Bool.false_eq_true, v3, swp, up1_n]
  · intro c hc
    by_cases e1 : c = o b
    · simp (disch := omega) only [↓reduceIte, ic_t, ic_f, not_true_eq_false, not_false_eq_true, ↓lt_v, rdR, rdE, rdS, leT, leTc, leTd, leF, leFc, leFd, ltT, ltTc, ltTd, ltF, ltFc, ltFd, eqT, eqTc, eqTd, eqF, eqFc, eqFd, m1T, m1F, m1T', m1F', inb_nI, ix_nI, inb_c, ix_c, nI_1, nI_pred, nI_m1, add_nIc, add_cnI, bd_v, reduceCtorEq, eqFcc, m1e0, m1e1, m1l0, m1g0, m2l0, m2g0, Int32.reduceLT, Int32.reduceLE, Int32.reduceAdd, Int32.reduceSub, Int32.reduceMul, eq_self, Bool.false_eq_true, swp, up1_e, wa]
    · by_cases e2 : c = o a
      · simp (disch := omega) only [↓reduceIte, ic_t, ic_f, not_true_eq_false, not_false_eq_true, ↓lt_v, rdR, rdE, rdS, leT, leTc, leTd, leF, leFc, leFd, ltT, ltTc, ltTd, ltF, ltFc, ltFd, eqT, eqTc, eqTd, eqF, eqFc, eqFd, m1T, m1F, m1T', m1F', inb_nI, ix_nI, inb_c, ix_c, nI_1, nI_pred, nI_m1, add_nIc, add_cnI, bd_v, reduceCtorEq, eqFcc, m1e0, m1e1, m1l0, m1g0, m2l0, m2g0, Int32.reduceLT, Int32.reduceLE, Int32.reduceAdd, Int32.reduceSub, Int32.reduceMul, eq_self, Bool.false_eq_true, swp, up1_e, up1_n, wb]
      · simp (disch := omega) only [↓reduceIte, ic_t, ic_f, not_true_eq_false, not_false_eq_true, ↓lt_v, rdR, rdE, rdS, leT, leTc, leTd, leF, leFc, leFd, ltT, ltTc, ltTd, ltF, ltFc, ltFd, eqT, eqTc, eqTd, eqF, eqFc, eqFd, m1T, m1F, m1T', m1F', inb_nI, ix_nI, inb_c, ix_c, nI_1, nI_pred, nI_m1, add_nIc, add_cnI, bd_v, reduceCtorEq, eqFcc, m1e0, m1e1, m1l0, m1g0, m2l0, m2g0, Int32.reduceLT, Int32.reduceLE, Int32.reduceAdd, Int32.reduceSub, Int32.reduceMul, eq_self, Bool.false_eq_true, v4, swp, up1_n]
  · intro k hk
    by_cases e1 : k = a
    · simp (disch := omega) only [↓reduceIte, ic_t, ic_f, not_true_eq_false, not_false_eq_true, ↓lt_v, rdR, rdE, rdS, leT, leTc, leTd, leF, leFc, leFd, ltT, ltTc, ltTd, ltF, ltFc, ltFd, eqT, eqTc, eqTd, eqF, eqFc, eqFd, m1T, m1F, m1T', m1F', inb_nI, ix_nI, inb_c, ix_c, nI_1, nI_pred, nI_m1, add_nIc, add_cnI, bd_v, reduceCtorEq, eqFcc, m1e0, m1e1, m1l0, m1g0, m2l0, m2g0, Int32.reduceLT, Int32.reduceLE, Int32.reduceAdd, Int32.reduceSub, Int32.reduceMul, eq_self, Bool.false_eq_true, swp, up1_e, wa]
    · by_cases e2 : k = b
      · simp (disch := omega) only [↓reduceIte, ic_t, ic_f, not_true_eq_false, not_false_eq_true, ↓lt_v, rdR, rdE, rdS, leT, leTc, leTd, leF, leFc, leFd, ltT, ltTc, ltTd, ltF, ltFc, ltFd, eqT, eqTc, eqTd, eqF, eqFc, eqFd, m1T, m1F, m1T', m1F', inb_nI, ix_nI, inb_c, ix_c, nI_1, nI_pred, nI_m1, add_nIc, add_cnI, bd_v, reduceCtorEq, eqFcc, m1e0, m1e1, m1l0, m1g0, m2l0, m2g0, Int32.reduceLT, Int32.reduceLE, Int32.reduceAdd, Int32.reduceSub, Int32.reduceMul, eq_self, Bool.false_eq_true, swp, up1_e, up1_n, wa, wb]
      · simp (disch := omega) only [↓reduceIte, ic_t, ic_f, not_true_eq_false, not_false_eq_true, ↓lt_v, rdR, rdE, rdS, leT, leTc, leTd, leF, leFc, leFd, ltT, ltTc, ltTd, ltF, ltFc, ltFd, eqT, eqTc, eqTd, eqF, eqFc, eqFd, m1T, m1F, m1T', m1F', inb_nI, ix_nI, inb_c, ix_c, nI_1, nI_pred, nI_m1, add_nIc, add_cnI, bd_v, reduceCtorEq, eqFcc, m1e0, m1e1, m1l0, m1g0, m2l0, m2g0, Int32.reduceLT, Int32.reduceLE, Int32.reduceAdd, Int32.reduceSub, Int32.reduceMul, eq_self, Bool.false_eq_true, v5, swp, up1_n, wa, wb]
  · simp (disch := omega) only [↓reduceIte, ic_t, ic_f, not_true_eq_false, not_false_eq_true, ↓lt_v, rdR, rdE, rdS, leT, leTc, leTd, leF, leFc, leFd, ltT, ltTc, ltTd, ltF, ltFc, ltFd, eqT, eqTc, eqTd, eqF, eqFc, eqFd, m1T, m1F, m1T', m1F', inb_nI, ix_nI, inb_c, ix_c, nI_1, nI_pred, nI_m1, add_nIc, add_cnI, bd_v, reduceCtorEq, eqFcc, m1e0, m1e1, m1l0, m1g0, m2l0, m2g0, Int32.reduceLT, Int32.reduceLE, Int32.reduceAdd, Int32.reduceSub, Int32.reduceMul, eq_self, Bool.false_eq_true, v6, swp, up1_n]
  · simp (disch := omega) only [↓reduceIte, ic_t, ic_f, not_true_eq_false, not_false_eq_true, ↓lt_v, rdR, rdE, rdS, leT, leTc, leTd, leF, leFc, leFd, ltT, ltTc, ltTd, ltF, ltFc, ltFd, eqT, eqTc, eqTd, eqF, eqFc, eqFd, m1T, m1F, m1T', m1F', inb_nI, ix_nI, inb_c, ix_c, nI_1, nI_pred, nI_m1, add_nIc, add_cnI, bd_v, reduceCtorEq, eqFcc, m1e0, m1e1, m1l0, m1g0, m2l0, m2g0, Int32.reduceLT, Int32.reduceLE, Int32.reduceAdd, Int32.reduceSub, Int32.reduceMul, eq_self, Bool.false_eq_true, v7, swp, up1_n]
  · simp (disch := omega) only [↓reduceIte, ic_t, ic_f, not_true_eq_false, not_false_eq_true, ↓lt_v, rdR, rdE, rdS, leT, leTc, leTd, leF, leFc, leFd, ltT, ltTc, ltTd, ltF, ltFc, ltFd, eqT, eqTc, eqTd, eqF, eqFc, eqFd, m1T, m1F, m1T', m1F', inb_nI, ix_nI, inb_c, ix_c, nI_1, nI_pred, nI_m1, add_nIc, add_cnI, bd_v, reduceCtorEq, eqFcc, m1e0, m1e1, m1l0, m1g0, m2l0, m2g0, Int32.reduceLT, Int32.reduceLE, Int32.reduceAdd, Int32.reduceSub, Int32.reduceMul, eq_self, Bool.false_eq_true, v8, swp, up1_n]
  · simp (disch := omega) only [↓reduceIte, ic_t, ic_f, not_true_eq_false, not_false_eq_true, ↓lt_v, rdR, rdE, rdS, leT, leTc, leTd, leF, leFc, leFd, ltT, ltTc, ltTd, ltF, ltFc, ltFd, eqT, eqTc, eqTd, eqF, eqFc, eqFd, m1T, m1F, m1T', m1F', inb_nI, ix_nI, inb_c, ix_c, nI_1, nI_pred, nI_m1, add_nIc, add_cnI, bd_v, reduceCtorEq, eqFcc, m1e0, m1e1, m1l0, m1g0, m2l0, m2g0, Int32.reduceLT, Int32.reduceLE, Int32.reduceAdd, Int32.reduceSub, Int32.reduceMul, eq_self, Bool.false_eq_true, v9, swp, up1_n]
  · repeat (first | exact fr_rfl | refine fr_trans ?_ (fr_sI (by omega)))
def cl9 (y : Int32) : Int32 := if (0 : Int32) < (if y < (9 : Int32) then y else 9) then (if y < (9 : Int32) then y else 9) else 0
/-- the boats of touches are boats -/
def TB (n : Nat) (T : TS) : Prop := ∀ i, i < T.2.1 → (∃ x, x < n ∧ T.2.2.2.1 i = nI x) ∧ (∃ y, y < n ∧ T.2.2.2.2 i = nI y)
theorem tb_tst {o : Nat → Nat} {L : Nat → Int32} {t n k : Nat} {T : TS} (ho : ∀ k, k < n → o k < n) (h : TB n T) (hk : k < n) : TB n (tst o L t k T) := by
  unfold tst
  split
  · rename_i c
    have hl := na_le T.1 k
    intro i hi
    by_cases e : i = T.2.1
    · subst e
      exact ⟨⟨o k, ho k hk, up1_e rfl⟩, ⟨o (na T.1 k - 1), ho _ (by omega), up1_e rfl⟩⟩
    · have := h i (by simp at hi; omega)
      refine ⟨?_, ?_⟩
      · rw [show (off (off T.1 k) (na T.1 k - 1), T.2.1 + 1, up1 T.2.2.1 T.2.1 (nI (t + 1)), up1 T.2.2.2.1 T.2.1 (nI (o k)), up1 T.2.2.2.2 T.2.1 (nI (o (na T.1 k - 1)))).2.2.2.1 i = T.2.2.2.1 i from up1_n e]; exact this.1
      · rw [show (off (off T.1 k) (na T.1 k - 1), T.2.1 + 1, up1 T.2.2.1 T.2.1 (nI (t + 1)), up1 T.2.2.2.1 T.2.1 (nI (o k)), up1 T.2.2.2.2 T.2.1 (nI (o (na T.1 k - 1)))).2.2.2.2 i = T.2.2.2.2 i from up1_n e]; exact this.2
  · exact h
theorem tb_tl {o : Nat → Nat} {L : Nat → Int32} {t n : Nat} {T : TS} (ho : ∀ k, k < n → o k < n) (h : TB n T) : ∀ j, j < n ∨ j = 0 → TB n (tl o L t j T)
  | 0, _ => h
  | j + 1, hj => tb_tst ho (tb_tl ho h j (by omega)) (by omega)
theorem tb_rs {F : (Nat → Int32) → Int32} {w : Nat → Int32} {o : Nat → Nat} {n : Nat} (ho : ∀ k, k < n → o k < n) : ∀ t, TB n (rs F w o n t).2
  | 0 => fun i hi => absurd hi (Nat.not_lt_zero _)
  | t + 1 => tb_tl ho (tb_rs ho t) (n - 1) (by omega)
theorem m_rs {F : (Nat → Int32) → Int32} {w : Nat → Int32} {o : Nat → Nat} {n : Nat} (t : Nat) (hn : n ≤ 6) : (rs F w o n t).2.2.1 ≤ 3 := by
  have := ti_rs (F := F) (w := w) (o := o) (n := n) t
  unfold Ti at this
  omega
theorem wf_sws {n m : Nat} {w : Nat → Int32} {o : Nat → Nat} {A B : Nat → Int32} (h : Wf n w o) (hT : ∀ i, i < m → (∃ x, x < n ∧ A i = nI x) ∧ (∃ y, y < n ∧ B i = nI y)) : ∀ i, i ≤ m → Wf n (sws A B i (w, o)).1 (sws A B i (w, o)).2
  | 0, _ => h
  | i + 1, hi => by
    obtain ⟨⟨x, hx, ex⟩, y, hy, ey⟩ := hT i (by omega)
    have hn := h.1
    unfold sws
    simp (disch := omega) only [↓reduceIte, ic_t, ic_f, not_true_eq_false, not_false_eq_true, ↓lt_v, rdR, rdE, rdS, leT, leTc, leTd, leF, leFc, leFd, ltT, ltTc, ltTd, ltF, ltFc, ltFd, eqT, eqTc, eqTd, eqF, eqFc, eqFd, m1T, m1F, m1T', m1F', inb_nI, ix_nI, inb_c, ix_c, nI_1, nI_pred, nI_m1, add_nIc, add_cnI, bd_v, reduceCtorEq, eqFcc, m1e0, m1e1, m1l0, m1g0, m2l0, m2g0, Int32.reduceLT, Int32.reduceLE, Int32.reduceAdd, Int32.reduceSub, Int32.reduceMul, eq_self, Bool.false_eq_true, ex, ey]
    exact wf_swp (wf_sws h hT i (by omega)) hx hy
theorem sws_lo {A B : Nat → Int32} {v : (Nat → Int32) × (Nat → Nat)} {j : Nat} (hj : j < 12) : ∀ i, (sws A B i v).1 j = v.1 j
  | 0 => rfl
  | i + 1 => by
    show up1 (up1 (sws A B i v).1 (12 + ix (A i)) ((sws A B i v).1 (12 + ix (B i)))) (12 + ix (B i)) ((sws A B i v).1 (12 + ix (A i))) j = v.1 j
    rw [up1_n (by omega), up1_n (by omega)]
    exact sws_lo hj i
theorem sws_cg {A B : Nat → Int32} {v v' : (Nat → Int32) × (Nat → Nat)} (h1 : ∀ j, 12 ≤ j → v.1 j = v'.1 j) (h2 : v.2 = v'.2) : ∀ i, (∀ j, 12 ≤ j → (sws A B i v).1 j = (sws A B i v').1 j) ∧ (sws A B i v).2 = (sws A B i v').2
  | 0 => ⟨h1, h2⟩
  | i + 1 => by
    obtain ⟨a, b⟩ := sws_cg h1 h2 i
    refine ⟨fun j hj => ?_, ?_⟩
    · show up1 (up1 (sws A B i v).1 (12 + ix (A i)) ((sws A B i v).1 (12 + ix (B i)))) (12 + ix (B i)) ((sws A B i v).1 (12 + ix (A i))) j = up1 (up1 (sws A B i v').1 (12 + ix (A i)) ((sws A B i v').1 (12 + ix (B i)))) (12 + ix (B i)) ((sws A B i v').1 (12 + ix (A i))) j
      unfold up1
      rw [a j hj, a (12 + ix (B i)) (by omega), a (12 + ix (A i)) (by omega)]
    · show up1 (up1 (sws A B i v).2 (ix ((sws A B i v).1 (12 + ix (B i)))) (ix (A i))) (ix ((sws A B i v).1 (12 + ix (A i)))) (ix (B i)) = up1 (up1 (sws A B i v').2 (ix ((sws A B i v').1 (12 + ix (B i)))) (ix (A i))) (ix ((sws A B i v').1 (12 + ix (A i)))) (ix (B i))
      rw [b, a (12 + ix (B i)) (by omega), a (12 + ix (A i)) (by omega)]
/-- a day -/
def dW (n : Nat) (w : Nat → Int32) (o : Nat → Nat) (T : TS) : (Nat → Int32) × (Nat → Nat) :=
  (up1 (up1 (fun i => if 6 ≤ i ∧ i < 6 + n then cl9 (w i + (if T.1 (ix (w (6 + i))) = true then 1 else -1)) else (sws T.2.2.2.1 T.2.2.2.2 T.2.1 (w, o)).1 i) 21 (if (sws T.2.2.2.1 T.2.2.2.2 T.2.1 (w, o)).1 21 + nI T.2.1 < (9999 : Int32) then (sws T.2.2.2.1 T.2.2.2.2 T.2.1 (w, o)).1 21 + nI T.2.1 else 9999)) 20 ((sws T.2.2.2.1 T.2.2.2.2 T.2.1 (w, o)).1 20 + 1),
   (sws T.2.2.2.1 T.2.2.2.2 T.2.1 (w, o)).2)
theorem wf_dW {n : Nat} {w : Nat → Int32} {o : Nat → Nat} {T : TS} (h : Wf n w o) (hT : TB n T) : Wf n (dW n w o T).1 (dW n w o T).2 := by
  have hn := h.1
  have h1 := wf_sws h hT T.2.1 (Nat.le_refl _)
  obtain ⟨_, a2, a3, a4, a5⟩ := h1
  have e : ∀ i, 12 ≤ i → i < 20 → (dW n w o T).1 i = (sws T.2.2.2.1 T.2.2.2.2 T.2.1 (w, o)).1 i := by
    intro i h1 h2
    unfold dW
    simp (disch := omega) only [↓reduceIte, ic_t, ic_f, not_true_eq_false, not_false_eq_true, ↓lt_v, rdR, rdE, rdS, leT, leTc, leTd, leF, leFc, leFd, ltT, ltTc, ltTd, ltF, ltFc, ltFd, eqT, eqTc, eqTd, eqF, eqFc, eqFd, m1T, m1F, m1T', m1F', inb_nI, ix_nI, inb_c, ix_c, nI_1, nI_pred, nI_m1, add_nIc, add_cnI, bd_v, reduceCtorEq, eqFcc, m1e0, m1e1, m1l0, m1g0, m2l0, m2g0, Int32.reduceLT, Int32.reduceLE, Int32.reduceAdd, Int32.reduceSub, Int32.reduceMul, eq_self, Bool.false_eq_true, up1_n]
    rw [if_neg (by omega)]
  refine ⟨hn, fun k hk => ⟨(a2 k hk).1, ?_⟩, a3, ?_, ?_⟩
  · have := (a2 k hk).1
    have e2 := e (12 + (sws T.2.2.2.1 T.2.2.2.2 T.2.1 (w, o)).2 k) (by omega) (by omega)
    exact e2.trans (a2 k hk).2
  · rw [e 18 (by omega) (by omega)]; exact a4
  · rw [e 19 (by omega) (by omega)]; exact a5
def wk (n : Nat) (w : Nat → Int32) (T : TS) (k : Nat) : Nat → Int32 := fun i => if 6 ≤ i ∧ i < 6 + n ∧ ix (w (6 + i)) < k then cl9 (w i + (if T.1 (ix (w (6 + i))) = true then 1 else -1)) else w i
theorem c_settle {M : Mem} {n r : Nat} {w : Nat → Int32} {o : Nat → Nat} {L : Nat → Int32} {T : TS} (hw : Wf n w o) (hT : TB n T) (hm : T.2.1 ≤ 3) (hr : r + 4 < 108 ∨ 153 < r) (hc : RcC n L T M) (hv : RivC r n w o M) :
    Ok (fX3_settle r M) (fun M' => RivC r n (dW n w o T).1 (dW n w o T).2 M' ∧ RcC n L T M' ∧ Fr (fun a => r ≤ a ∧ a ≤ r + 4) M M') := by
  have hn := hw.1
  have pl : ∀ k, k < n → ix (w (12 + o k)) = k := fun k hk => by rw [(hw.2.1 k hk).2, ix_nI (by omega)]
  have wkn : Wf n (wk n w T n) o := by
    have e : ∀ i, 12 ≤ i → wk n w T n i = w i := fun i hi => by unfold wk; rw [if_neg (by omega)]
    refine ⟨hn, fun k hk => ⟨(hw.2.1 k hk).1, by rw [e _ (by omega)]; exact (hw.2.1 k hk).2⟩, hw.2.2.1, by rw [e _ (by omega)]; exact hw.2.2.2.1, by rw [e _ (by omega)]; exact hw.2.2.2.2⟩
  have hcg := sws_cg (A := T.2.2.2.1) (B := T.2.2.2.2) (v := (wk n w T n, o)) (v' := (w, o)) (fun j hj => by show wk n w T n j = w j; unfold wk; rw [if_neg (by omega)]) rfl T.2.1
  have hlo : ∀ j, j < 12 → (sws T.2.2.2.1 T.2.2.2.2 T.2.1 (wk n w T n, o)).1 j = wk n w T n j := fun j hj => sws_lo hj _
  -- the swaps, then the rest
  have second : ∀ s, RivC r n (wk n w T n) o s → RcC n L T s → Fr (fun a => r ≤ a ∧ a ≤ r + 4) M s → Ok (fX3_settle_65 FU r 0 s) (fun M' => RivC r n (dW n w o T).1 (dW n w o T).2 M' ∧ RcC n L T M' ∧ Fr (fun a => r ≤ a ∧ a ≤ r + 4) M M') := by
    intro s h1 h2 h3
    have hFU : 2000 < FU := FU_big
    generalize FU = fu0 at hFU ⊢
    refine ok_loop T.2.1 (fun fu k s => fX3_settle_65 fu r (nI k) s) (fun k s => RivC r n (sws T.2.2.2.1 T.2.2.2.2 k (wk n w T n, o)).1 (sws T.2.2.2.1 T.2.2.2.2 k (wk n w T n, o)).2 s ∧ RcC n L T s ∧ Fr (fun a => r ≤ a ∧ a ≤ r + 4) M s) ?_ ?_ fu0 0 s (by omega) (by omega) ⟨h1, h2, h3⟩
    · intro fu k s hk hs ih
      obtain ⟨b1, b2, b3⟩ := hs
      have c5 := b2.2.2.2.2.1
      have c6 := b2.2.2.2.2.2 k hk
      obtain ⟨⟨x, hx, ex⟩, y, hy, ey⟩ := hT k hk
      rw [e_X3_settle_65]
      simp (disch := omega) only [↓reduceIte, ic_t, ic_f, not_true_eq_false, not_false_eq_true, ↓lt_v, rdR, rdE, rdS, leT, leTc, leTd, leF, leFc, leFd, ltT, ltTc, ltTd, ltF, ltFc, ltFd, eqT, eqTc, eqTd, eqF, eqFc, eqFd, m1T, m1F, m1T', m1F', inb_nI, ix_nI, inb_c, ix_c, nI_1, nI_pred, nI_m1, add_nIc, add_cnI, bd_v, reduceCtorEq, eqFcc, m1e0, m1e1, m1l0, m1g0, m2l0, m2g0, Int32.reduceLT, Int32.reduceLE, Int32.reduceAdd, Int32.reduceSub, Int32.reduceMul, eq_self, Bool.false_eq_true, c5, c6.2.1, c6.2.2, ex, ey]
      refine ok_call (c_change (wf_sws wkn hT k (by omega)) b1 hx hy) (fun M1 q1 => ?_)
      refine ih _ ⟨?_, rcC_fr b2 q1.2 (fun a ha => by omega), fr_trans b3 (fr_sub q1.2 (fun a ha => by omega))⟩
      have e : sws T.2.2.2.1 T.2.2.2.2 (k + 1) (wk n w T n, o) = swp x y (sws T.2.2.2.1 T.2.2.2.2 k (wk n w T n, o)) := by
        show swp (ix (T.2.2.2.1 k)) (ix (T.2.2.2.2 k)) _ = _
        rw [ex, ey, ix_nI (by omega), ix_nI (by omega)]
      rw [e]
      exact q1.1
    · intro fu s hs
      obtain ⟨b1, b2, b3⟩ := hs
      have c5 := b2.2.2.2.2.1
      obtain ⟨v1, v2, v3, v4, v5, v6, v7, v8, v9⟩ := b1
      rw [e_X3_settle_65]
      simp (disch := omega) only [↓reduceIte, ic_t, ic_f, not_true_eq_false, not_false_eq_true, ↓lt_v, rdR, rdE, rdS, leT, leTc, leTd, leF, leFc, leFd, ltT, ltTc, ltTd, ltF, ltFc, ltFd, eqT, eqTc, eqTd, eqF, eqFc, eqFd, m1T, m1F, m1T', m1F', inb_nI, ix_nI, inb_c, ix_c, nI_1, nI_pred, nI_m1, add_nIc, add_cnI, bd_v, reduceCtorEq, eqFcc, m1e0, m1e1, m1l0, m1g0, m2l0, m2g0, Int32.reduceLT, Int32.reduceLE, Int32.reduceAdd, Int32.reduceSub, Int32.reduceMul, eq_self, Bool.false_eq_true, c5, v8, v9]
      refine ok_some ⟨⟨?_, ?_, ?_, ?_, ?_, ?_, ?_, ?_, ?_⟩, ?_, ?_⟩
      · simp (disch := omega) only [↓reduceIte, ic_t, ic_f, not_true_eq_false, not_false_eq_true, ↓lt_v, rdR, rdE, rdS, leT, leTc, leTd, leF, leFc, leFd, ltT, ltTc, ltTd, ltF, ltFc, ltFd, eqT, eqTc, eqTd, eqF, eqFc, eqFd, m1T, m1F, m1T', m1F', inb_nI, ix_nI, inb_c, ix_c, nI_1, nI_pred, nI_m1, add_nIc, add_cnI, bd_v, reduceCtorEq, eqFcc, m1e0, m1e1, m1l0, m1g0, m2l0, m2g0, Int32.reduceLT, Int32.reduceLE, Int32.reduceAdd, Int32.reduceSub, Int32.reduceMul, eq_self, Bool.false_eq_true, v1]
      · intro b hb
        simp (disch := omega) only [↓reduceIte, ic_t, ic_f, not_true_eq_false, not_false_eq_true, ↓lt_v, rdR, rdE, rdS, leT, leTc, leTd, leF, leFc, leFd, ltT, ltTc, ltTd, ltF, ltFc, ltFd, eqT, eqTc, eqTd, eqF, eqFc, eqFd, m1T, m1F, m1T', m1F', inb_nI, ix_nI, inb_c, ix_c, nI_1, nI_pred, nI_m1, add_nIc, add_cnI, bd_v, reduceCtorEq, eqFcc, m1e0, m1e1, m1l0, m1g0, m2l0, m2g0, Int32.reduceLT, Int32.reduceLE, Int32.reduceAdd, Int32.reduceSub, Int32.reduceMul, eq_self, Bool.false_eq_true, v2, dW, up1_n]
        rw [if_neg (by omega), hlo b (by omega), sws_lo (by omega)]
        show _ = w b
        unfold wk
        rw [if_neg (by omega)]
      · intro b hb
        simp (disch := omega) only [↓reduceIte, ic_t, ic_f, not_true_eq_false, not_false_eq_true, ↓lt_v, rdR, rdE, rdS, leT, leTc, leTd, leF, leFc, leFd, ltT, ltTc, ltTd, ltF, ltFc, ltFd, eqT, eqTc, eqTd, eqF, eqFc, eqFd, m1T, m1F, m1T', m1F', inb_nI, ix_nI, inb_c, ix_c, nI_1, nI_pred, nI_m1, add_nIc, add_cnI, bd_v, reduceCtorEq, eqFcc, m1e0, m1e1, m1l0, m1g0, m2l0, m2g0, Int32.reduceLT, Int32.reduceLE, Int32.reduceAdd, Int32.reduceSub, Int32.reduceMul, eq_self, Bool.false_eq_true, v3, dW, up1_n]
        rw [if_pos (by omega), hlo _ (by omega)]
        unfold wk
        obtain ⟨k, hk, rfl⟩ := hw.2.2.1 b hb
        rw [show 6 + (6 + o k) = 12 + o k by omega, pl k hk, if_pos (by omega)]
      · intro b hb
        simp (disch := omega) only [↓reduceIte, ic_t, ic_f, not_true_eq_false, not_false_eq_true, ↓lt_v, rdR, rdE, rdS, leT, leTc, leTd, leF, leFc, leFd, ltT, ltTc, ltTd, ltF, ltFc, ltFd, eqT, eqTc, eqTd, eqF, eqFc, eqFd, m1T, m1F, m1T', m1F', inb_nI, ix_nI, inb_c, ix_c, nI_1, nI_pred, nI_m1, add_nIc, add_cnI, bd_v, reduceCtorEq, eqFcc, m1e0, m1e1, m1l0, m1g0, m2l0, m2g0, Int32.reduceLT, Int32.reduceLE, Int32.reduceAdd, Int32.reduceSub, Int32.reduceMul, eq_self, Bool.false_eq_true, v4, dW, up1_n]
        rw [if_neg (by omega), hcg.1 _ (by omega)]
      · intro k hk
        simp (disch := omega) only [↓reduceIte, ic_t, ic_f, not_true_eq_false, not_false_eq_true, ↓lt_v, rdR, rdE, rdS, leT, leTc, leTd, leF, leFc, leFd, ltT, ltTc, ltTd, ltF, ltFc, ltFd, eqT, eqTc, eqTd, eqF, eqFc, eqFd, m1T, m1F, m1T', m1F', inb_nI, ix_nI, inb_c, ix_c, nI_1, nI_pred, nI_m1, add_nIc, add_cnI, bd_v, reduceCtorEq, eqFcc, m1e0, m1e1, m1l0, m1g0, m2l0, m2g0, Int32.reduceLT, Int32.reduceLE, Int32.reduceAdd, Int32.reduceSub, Int32.reduceMul, eq_self, Bool.false_eq_true, v5]
        show _ = nI ((sws T.2.2.2.1 T.2.2.2.2 T.2.1 (w, o)).2 k)
        rw [hcg.2]
      · simp (disch := omega) only [↓reduceIte, ic_t, ic_f, not_true_eq_false, not_false_eq_true, ↓lt_v, rdR, rdE, rdS, leT, leTc, leTd, leF, leFc, leFd, ltT, ltTc, ltTd, ltF, ltFc, ltFd, eqT, eqTc, eqTd, eqF, eqFc, eqFd, m1T, m1F, m1T', m1F', inb_nI, ix_nI, inb_c, ix_c, nI_1, nI_pred, nI_m1, add_nIc, add_cnI, bd_v, reduceCtorEq, eqFcc, m1e0, m1e1, m1l0, m1g0, m2l0, m2g0, Int32.reduceLT, Int32.reduceLE, Int32.reduceAdd, Int32.reduceSub, Int32.reduceMul, eq_self, Bool.false_eq_true, v6, dW, up1_n]
        rw [if_neg (by omega), hcg.1 _ (by omega)]
      · simp (disch := omega) only [↓reduceIte, ic_t, ic_f, not_true_eq_false, not_false_eq_true, ↓lt_v, rdR, rdE, rdS, leT, leTc, leTd, leF, leFc, leFd, ltT, ltTc, ltTd, ltF, ltFc, ltFd, eqT, eqTc, eqTd, eqF, eqFc, eqFd, m1T, m1F, m1T', m1F', inb_nI, ix_nI, inb_c, ix_c, nI_1, nI_pred, nI_m1, add_nIc, add_cnI, bd_v, reduceCtorEq, eqFcc, m1e0, m1e1, m1l0, m1g0, m2l0, m2g0, Int32.reduceLT, Int32.reduceLE, Int32.reduceAdd, Int32.reduceSub, Int32.reduceMul, eq_self, Bool.false_eq_true, v7, dW, up1_n]
        rw [if_neg (by omega), hcg.1 _ (by omega)]
      · simp (disch := omega) only [↓reduceIte, ic_t, ic_f, not_true_eq_false, not_false_eq_true, ↓lt_v, rdR, rdE, rdS, leT, leTc, leTd, leF, leFc, leFd, ltT, ltTc, ltTd, ltF, ltFc, ltFd, eqT, eqTc, eqTd, eqF, eqFc, eqFd, m1T, m1F, m1T', m1F', inb_nI, ix_nI, inb_c, ix_c, nI_1, nI_pred, nI_m1, add_nIc, add_cnI, bd_v, reduceCtorEq, eqFcc, m1e0, m1e1, m1l0, m1g0, m2l0, m2g0, Int32.reduceLT, Int32.reduceLE, Int32.reduceAdd, Int32.reduceSub, Int32.reduceMul, eq_self, Bool.false_eq_true, dW, up1_e]
        rw [hcg.1 _ (by omega)]
      · simp (disch := omega) only [↓reduceIte, ic_t, ic_f, not_true_eq_false, not_false_eq_true, ↓lt_v, rdR, rdE, rdS, leT, leTc, leTd, leF, leFc, leFd, ltT, ltTc, ltTd, ltF, ltFc, ltFd, eqT, eqTc, eqTd, eqF, eqFc, eqFd, m1T, m1F, m1T', m1F', inb_nI, ix_nI, inb_c, ix_c, nI_1, nI_pred, nI_m1, add_nIc, add_cnI, bd_v, reduceCtorEq, eqFcc, m1e0, m1e1, m1l0, m1g0, m2l0, m2g0, Int32.reduceLT, Int32.reduceLE, Int32.reduceAdd, Int32.reduceSub, Int32.reduceMul, eq_self, Bool.false_eq_true, dW, up1_n, up1_e]
        rw [hcg.1 _ (by omega)]
      · refine rcC_fr b2 (P := fun a => r ≤ a ∧ a ≤ r + 4) ?_ (fun a ha => by omega)
        repeat (first | exact fr_rfl | refine fr_trans ?_ (fr_sI (by omega)))
      · refine fr_trans b3 ?_
        repeat (first | exact fr_rfl | refine fr_trans ?_ (fr_sI (by omega)))
  rw [e_X3_settle]
  have hFU : 2000 < FU := FU_big
  generalize FU = fu0 at hFU ⊢
  refine ok_loop n (fun fu k s => fX3_settle_2 fu r (nI k) s) (fun k s => RivC r n (wk n w T k) o s ∧ RcC n L T s ∧ Fr (fun a => r ≤ a ∧ a ≤ r + 4) M s) ?_ ?_ fu0 0 M (by omega) (by omega) ⟨?_, hc, fr_rfl⟩
  · intro fu k s hk hs ih
    obtain ⟨b1, b2, b3⟩ := hs
    have c1 := b2.1
    have c3 := b2.2.2.1
    have ok := (hw.2.1 k hk).1
    have hfin : ∀ v, v = cl9 (w (6 + o k) + (if T.1 k = true then 1 else -1)) → Ok (fX3_settle_2 fu r (nI (k + 1)) (sI s (r + 2) (o k) v)) (fun M' => RivC r n (dW n w o T).1 (dW n w o T).2 M' ∧ RcC n L T M' ∧ Fr (fun a => r ≤ a ∧ a ≤ r + 4) M M') := by
      intro v hv2
      obtain ⟨v1, v2, v3, v4, v5, v6, v7, v8, v9⟩ := b1
      refine ih _ ⟨⟨?_, ?_, ?_, ?_, ?_, ?_, ?_, ?_, ?_⟩, rcC_fr (P := fun a => r ≤ a ∧ a ≤ r + 4) b2 (fr_sI (by omega)) (fun a ha => by omega), fr_trans b3 (fr_sI (by omega))⟩
      · simp (disch := omega) only [↓reduceIte, ic_t, ic_f, not_true_eq_false, not_false_eq_true, ↓lt_v, rdR, rdE, rdS, leT, leTc, leTd, leF, leFc, leFd, ltT, ltTc, ltTd, ltF, ltFc, ltFd, eqT, eqTc, eqTd, eqF, eqFc, eqFd, m1T, m1F, m1T', m1F', inb_nI, ix_nI, inb_c, ix_c, nI_1, nI_pred, nI_m1, add_nIc, add_cnI, bd_v, reduceCtorEq, eqFcc, m1e0, m1e1, m1l0, m1g0, m2l0, m2g0, Int32.reduceLT, Int32.reduceLE, Int32.reduceAdd, Int32.reduceSub, Int32.reduceMul, eq_self, Bool.false_eq_true, v1]
      · intro b hb
        simp (disch := omega) only [↓reduceIte, ic_t, ic_f, not_true_eq_false, not_false_eq_true, ↓lt_v, rdR, rdE, rdS, leT, leTc, leTd, leF, leFc, leFd, ltT, ltTc, ltTd, ltF, ltFc, ltFd, eqT, eqTc, eqTd, eqF, eqFc, eqFd, m1T, m1F, m1T', m1F', inb_nI, ix_nI, inb_c, ix_c, nI_1, nI_pred, nI_m1, add_nIc, add_cnI, bd_v, reduceCtorEq, eqFcc, m1e0, m1e1, m1l0, m1g0, m2l0, m2g0, Int32.reduceLT, Int32.reduceLE, Int32.reduceAdd, Int32.reduceSub, Int32.reduceMul, eq_self, Bool.false_eq_true, v2]
        unfold wk
        rw [if_neg (by omega), if_neg (by omega)]
      · intro b hb
        by_cases e : b = o k
        · subst e
          simp (disch := omega) only [↓reduceIte, ic_t, ic_f, not_true_eq_false, not_false_eq_true, ↓lt_v, rdR, rdE, rdS, leT, leTc, leTd, leF, leFc, leFd, ltT, ltTc, ltTd, ltF, ltFc, ltFd, eqT, eqTc, eqTd, eqF, eqFc, eqFd, m1T, m1F, m1T', m1F', inb_nI, ix_nI, inb_c, ix_c, nI_1, nI_pred, nI_m1, add_nIc, add_cnI, bd_v, reduceCtorEq, eqFcc, m1e0, m1e1, m1l0, m1g0, m2l0, m2g0, Int32.reduceLT, Int32.reduceLE, Int32.reduceAdd, Int32.reduceSub, Int32.reduceMul, eq_self, Bool.false_eq_true, hv2]
          unfold wk
          rw [show 6 + (6 + o k) = 12 + o k by omega, pl k hk, if_pos (show 6 ≤ 6 + o k ∧ 6 + o k < 6 + n ∧ k < k + 1 by omega)]
        · simp (disch := omega) only [↓reduceIte, ic_t, ic_f, not_true_eq_false, not_false_eq_true, ↓lt_v, rdR, rdE, rdS, leT, leTc, leTd, leF, leFc, leFd, ltT, ltTc, ltTd, ltF, ltFc, ltFd, eqT, eqTc, eqTd, eqF, eqFc, eqFd, m1T, m1F, m1T', m1F', inb_nI, ix_nI, inb_c, ix_c, nI_1, nI_pred, nI_m1, add_nIc, add_cnI, bd_v, reduceCtorEq, eqFcc, m1e0, m1e1, m1l0, m1g0, m2l0, m2g0, Int32.reduceLT, Int32.reduceLE, Int32.reduceAdd, Int32.reduceSub, Int32.reduceMul, eq_self, Bool.false_eq_true, v3]
          unfold wk
          obtain ⟨j, hj, rfl⟩ := hw.2.2.1 b hb
          have : j ≠ k := fun q => e (by rw [q])
          rw [show 6 + (6 + o j) = 12 + o j by omega, pl j hj]
          by_cases h : j < k
          · rw [if_pos (show 6 ≤ 6 + o j ∧ 6 + o j < 6 + n ∧ j < k by omega), if_pos (show 6 ≤ 6 + o j ∧ 6 + o j < 6 + n ∧ j < k + 1 by omega)]
          · rw [if_neg (show ¬ (6 ≤ 6 + o j ∧ 6 + o j < 6 + n ∧ j < k) by omega), if_neg (show ¬ (6 ≤ 6 + o j ∧ 6 + o j < 6 + n ∧ j < k + 1) by omega)]
      · intro b hb
        simp (disch := omega) only [↓reduceIte, ic_t, ic_f, not_true_eq_false, not_false_eq_true, ↓lt_v, rdR, rdE, rdS, leT, leTc, leTd, leF, leFc, leFd, ltT, ltTc, ltTd, ltF, ltFc, ltFd, eqT, eqTc, eqTd, eqF, eqFc, eqFd, m1T, m1F, m1T', m1F', inb_nI, ix_nI, inb_c, ix_c, nI_1, nI_pred, nI_m1, add_nIc, add_cnI, bd_v, reduceCtorEq, eqFcc, m1e0, m1e1, m1l0, m1g0, m2l0, m2g0, Int32.reduceLT, Int32.reduceLE, Int32.reduceAdd, Int32.reduceSub, Int32.reduceMul, eq_self, Bool.false_eq_true, v4]
        unfold wk
        rw [if_neg (by omega), if_neg (by omega)]
      · intro j hj
        simp (disch := omega) only [↓reduceIte, ic_t, ic_f, not_true_eq_false, not_false_eq_true, ↓lt_v, rdR, rdE, rdS, leT, leTc, leTd, leF, leFc, leFd, ltT, ltTc, ltTd, ltF, ltFc, ltFd, eqT, eqTc, eqTd, eqF, eqFc, eqFd, m1T, m1F, m1T', m1F', inb_nI, ix_nI, inb_c, ix_c, nI_1, nI_pred, nI_m1, add_nIc, add_cnI, bd_v, reduceCtorEq, eqFcc, m1e0, m1e1, m1l0, m1g0, m2l0, m2g0, Int32.reduceLT, Int32.reduceLE, Int32.reduceAdd, Int32.reduceSub, Int32.reduceMul, eq_self, Bool.false_eq_true, v5]
      · simp (disch := omega) only [↓reduceIte, ic_t, ic_f, not_true_eq_false, not_false_eq_true, ↓lt_v, rdR, rdE, rdS, leT, leTc, leTd, leF, leFc, leFd, ltT, ltTc, ltTd, ltF, ltFc, ltFd, eqT, eqTc, eqTd, eqF, eqFc, eqFd, m1T, m1F, m1T', m1F', inb_nI, ix_nI, inb_c, ix_c, nI_1, nI_pred, nI_m1, add_nIc, add_cnI, bd_v, reduceCtorEq, eqFcc, m1e0, m1e1, m1l0, m1g0, m2l0, m2g0, Int32.reduceLT, Int32.reduceLE, Int32.reduceAdd, Int32.reduceSub, Int32.reduceMul, eq_self, Bool.false_eq_true, v6]
        unfold wk
        rw [if_neg (by omega), if_neg (by omega)]
      · simp (disch := omega) only [↓reduceIte, ic_t, ic_f, not_true_eq_false, not_false_eq_true, ↓lt_v, rdR, rdE, rdS, leT, leTc, leTd, leF, leFc, leFd, ltT, ltTc, ltTd, ltF, ltFc, ltFd, eqT, eqTc, eqTd, eqF, eqFc, eqFd, m1T, m1F, m1T', m1F', inb_nI, ix_nI, inb_c, ix_c, nI_1, nI_pred, nI_m1, add_nIc, add_cnI, bd_v, reduceCtorEq, eqFcc, m1e0, m1e1, m1l0, m1g0, m2l0, m2g0, Int32.reduceLT, Int32.reduceLE, Int32.reduceAdd, Int32.reduceSub, Int32.reduceMul, eq_self, Bool.false_eq_true, v7]
        unfold wk
        rw [if_neg (by omega), if_neg (by omega)]
      · simp (disch := omega) only [↓reduceIte, ic_t, ic_f, not_true_eq_false, not_false_eq_true, ↓lt_v, rdR, rdE, rdS, leT, leTc, leTd, leF, leFc, leFd, ltT, ltTc, ltTd, ltF, ltFc, ltFd, eqT, eqTc, eqTd, eqF, eqFc, eqFd, m1T, m1F, m1T', m1F', inb_nI, ix_nI, inb_c, ix_c, nI_1, nI_pred, nI_m1, add_nIc, add_cnI, bd_v, reduceCtorEq, eqFcc, m1e0, m1e1, m1l0, m1g0, m2l0, m2g0, Int32.reduceLT, Int32.reduceLE, Int32.reduceAdd, Int32.reduceSub, Int32.reduceMul, eq_self, Bool.false_eq_true, v8]
        unfold wk
        rw [if_neg (by omega), if_neg (by omega)]
      · simp (disch := omega) only [↓reduceIte, ic_t, ic_f, not_true_eq_false, not_false_eq_true, ↓lt_v, rdR, rdE, rdS, leT, leTc, leTd, leF, leFc, leFd, ltT, ltTc, ltTd, ltF, ltFc, ltFd, eqT, eqTc, eqTd, eqF, eqFc, eqFd, m1T, m1F, m1T', m1F', inb_nI, ix_nI, inb_c, ix_c, nI_1, nI_pred, nI_m1, add_nIc, add_cnI, bd_v, reduceCtorEq, eqFcc, m1e0, m1e1, m1l0, m1g0, m2l0, m2g0, Int32.reduceLT, Int32.reduceLE, Int32.reduceAdd, Int32.reduceSub, Int32.reduceMul, eq_self, Bool.false_eq_true, v9]
        unfold wk
        rw [if_neg (by omega), if_neg (by omega)]
    have v3 := b1.2.2.1 (o k) ok
    have v3' : wk n w T k (6 + o k) = w (6 + o k) := by
      unfold wk
      rw [show 6 + (6 + o k) = 12 + o k by omega, pl k hk, if_neg (by omega)]
    rw [v3'] at v3
    have v5 := b1.2.2.2.2.1 k hk
    rw [e_X3_settle_2]
    simp (disch := omega) only [↓reduceIte, ic_t, ic_f, not_true_eq_false, not_false_eq_true, ↓lt_v, rdR, rdE, rdS, leT, leTc, leTd, leF, leFc, leFd, ltT, ltTc, ltTd, ltF, ltFc, ltFd, eqT, eqTc, eqTd, eqF, eqFc, eqFd, m1T, m1F, m1T', m1F', inb_nI, ix_nI, inb_c, ix_c, nI_1, nI_pred, nI_m1, add_nIc, add_cnI, bd_v, reduceCtorEq, eqFcc, m1e0, m1e1, m1l0, m1g0, m2l0, m2g0, Int32.reduceLT, Int32.reduceLE, Int32.reduceAdd, Int32.reduceSub, Int32.reduceMul, eq_self, Bool.false_eq_true, c1, v5, c3, bI_0, e_X3_settle_37]
    cases hg : T.1 k
    · simp (disch := omega) only [↓reduceIte, ic_t, ic_f, not_true_eq_false, not_false_eq_true, ↓lt_v, rdR, rdE, rdS, leT, leTc, leTd, leF, leFc, leFd, ltT, ltTc, ltTd, ltF, ltFc, ltFd, eqT, eqTc, eqTd, eqF, eqFc, eqFd, m1T, m1F, m1T', m1F', inb_nI, ix_nI, inb_c, ix_c, nI_1, nI_pred, nI_m1, add_nIc, add_cnI, bd_v, reduceCtorEq, eqFcc, m1e0, m1e1, m1l0, m1g0, m2l0, m2g0, Int32.reduceLT, Int32.reduceLE, Int32.reduceAdd, Int32.reduceSub, Int32.reduceMul, eq_self, Bool.false_eq_true, v3]
      refine hfin _ ?_
      rw [hg]
      rfl
    · simp (disch := omega) only [↓reduceIte, ic_t, ic_f, not_true_eq_false, not_false_eq_true, ↓lt_v, rdR, rdE, rdS, leT, leTc, leTd, leF, leFc, leFd, ltT, ltTc, ltTd, ltF, ltFc, ltFd, eqT, eqTc, eqTd, eqF, eqFc, eqFd, m1T, m1F, m1T', m1F', inb_nI, ix_nI, inb_c, ix_c, nI_1, nI_pred, nI_m1, add_nIc, add_cnI, bd_v, reduceCtorEq, eqFcc, m1e0, m1e1, m1l0, m1g0, m2l0, m2g0, Int32.reduceLT, Int32.reduceLE, Int32.reduceAdd, Int32.reduceSub, Int32.reduceMul, eq_self, Bool.false_eq_true, v3]
      refine hfin _ ?_
      rw [hg]
      rfl
  · intro fu s hs
    obtain ⟨b1, b2, b3⟩ := hs
    have c1 := b2.1
    rw [e_X3_settle_2]
    simp (disch := omega) only [↓reduceIte, ic_t, ic_f, not_true_eq_false, not_false_eq_true, ↓lt_v, rdR, rdE, rdS, leT, leTc, leTd, leF, leFc, leFd, ltT, ltTc, ltTd, ltF, ltFc, ltFd, eqT, eqTc, eqTd, eqF, eqFc, eqFd, m1T, m1F, m1T', m1F', inb_nI, ix_nI, inb_c, ix_c, nI_1, nI_pred, nI_m1, add_nIc, add_cnI, bd_v, reduceCtorEq, eqFcc, m1e0, m1e1, m1l0, m1g0, m2l0, m2g0, Int32.reduceLT, Int32.reduceLE, Int32.reduceAdd, Int32.reduceSub, Int32.reduceMul, eq_self, Bool.false_eq_true, c1]
    exact second s b1 b2 b3
  · have e : wk n w T 0 = w := by
      funext i
      unfold wk
      rw [if_neg (by omega)]
    rw [e]
    exact hv
