/-! PURE: later -/
theorem fr_SC {M M' : Mem} {r R : Nat} (h : Fr (PDy r R) M M') (hr : r = 16 ∨ r = 21) (hR : R = 146 ∨ R = 150) : Fr SC M M' := fr_sub h (fun a ha => by unfold PDy at ha; unfold SC; omega)
theorem fr_SCu {M M' : Mem} {R : Nat} (h : Fr (PRu R) M M') (hR : R = 146 ∨ R = 150) : Fr SC M M' := fr_sub h (fun a ha => by unfold PRu at ha; unfold SC; omega)
theorem frR_SR {M M' : Mem} {a : Nat} (h : FrR (PDr a) SDr M M') (ha : a = 172 ∨ a = 197) : FrR SR SS1 M M' := frR_sub h (fun b _ hb => by unfold PDr at hb; unfold SR; omega) (fun i hi => by unfold SDr at hi; unfold SS1 SS; omega)
theorem frR_SRu {M M' : Mem} (h : FrR PRr ST M M') : FrR SR SS1 M M' := frR_sub h (fun b _ hb => by unfold PRr at hb; unfold SR; omega) (fun i hi => by unfold ST at hi; unfold SS1 SS; omega)
theorem kr_1 {M M' : Mem} (h : FrR SR SS1 M M') : KR M M' := kr_fr (frR_sub h (fun _ _ h => h) (fun _ h => h.1))
/-- the trial river is the river -/
theorem c_trial {M : Mem} {n R : Nat} {v : VV} {F : (Nat → Int32) → Int32} {α : Type} {f : Mem → Option α} {Q : α → Prop} (hc : CR n v F R M)
    (k : ∀ M', RvC 16 n v M' → CR n v F R M' → M'.2.2 1 17 = R → Fr SC M M' → Ok (f M') Q) : Ok ((fX4_copyFrom 16 6 M).bind f) Q := by
  obtain ⟨h1, h2, h3, h4, h5⟩ := hc
  refine ok_call (c_copy h1.1 (by omega) h2) (fun M1 g => ?_)
  have e : M1.2.2 1 17 = R := by rw [g.2.2]; exact h4
  refine k M1 g.1 ⟨h1, rivC_fr h2 (fun a b1 b2 => g.2.1 a (by omega)), ruC_fr h3 (g.2.1 R (by omega)) (g.2.1 (R + 1) (by omega)), e, h5⟩ e (fr_sub g.2 (fun a ha => by unfold SC; omega))
theorem r_thrown0 {M : Mem} {n : Nat} {v : VV} {F : (Nat → Int32) → Int32} (h : RR n v F M) : RR n v F (sI M 169 0 0) ∧ FrR SR SS1 M (sI M 169 0 0) :=
  ⟨⟨h.1, by simp (disch := omega) only [↓reduceIte, ic_t, ic_f, not_true_eq_false, not_false_eq_true, ↓lt_v, rdR, rdE, rdS, leT, leTc, leTd, leF, leFc, leFd, ltT, ltTc, ltTd, ltF, ltFc, ltFd, eqT, eqTc, eqTd, eqF, eqFc, eqFd, m1T, m1F, m1T', m1F', inb_nI, ix_nI, inb_c, ix_c, nI_1, nI_pred, nI_m1, add_nIc, add_cnI, bd_v, reduceCtorEq, eqFcc, m1e0, m1e1, m1l0, m1g0, m2l0, m2g0, Int32.reduceLT, Int32.reduceLE, Int32.reduceAdd, Int32.reduceSub, Int32.reduceMul, eq_self, Bool.false_eq_true, h.2.1], fun i hi => by simp (disch := omega) only [↓reduceIte, ic_t, ic_f, not_true_eq_false, not_false_eq_true, ↓lt_v, rdR, rdE, rdS, leT, leTc, leTd, leF, leFc, leFd, ltT, ltTc, ltTd, ltF, ltFc, ltFd, eqT, eqTc, eqTd, eqF, eqFc, eqFd, m1T, m1F, m1T', m1F', inb_nI, ix_nI, inb_c, ix_c, nI_1, nI_pred, nI_m1, add_nIc, add_cnI, bd_v, reduceCtorEq, eqFcc, m1e0, m1e1, m1l0, m1g0, m2l0, m2g0, Int32.reduceLT, Int32.reduceLE, Int32.reduceAdd, Int32.reduceSub, Int32.reduceMul, eq_self, Bool.false_eq_true]; exact h.2.2.1 i hi, ruR_fr h.2.2.2 (row_n (by omega)) (by simp (disch := omega) only [↓reduceIte, ic_t, ic_f, not_true_eq_false, not_false_eq_true, ↓lt_v, rdR, rdE, rdS, leT, leTc, leTd, leF, leFc, leFd, ltT, ltTc, ltTd, ltF, ltFc, ltFd, eqT, eqTc, eqTd, eqF, eqFc, eqFd, m1T, m1F, m1T', m1F', inb_nI, ix_nI, inb_c, ix_c, nI_1, nI_pred, nI_m1, add_nIc, add_cnI, bd_v, reduceCtorEq, eqFcc, m1e0, m1e1, m1l0, m1g0, m2l0, m2g0, Int32.reduceLT, Int32.reduceLE, Int32.reduceAdd, Int32.reduceSub, Int32.reduceMul, eq_self, Bool.false_eq_true])⟩, frR_sI (by omega) (by unfold SS1 SS; omega)⟩
theorem r_then {M : Mem} {n : Nat} {v : VV} {F : (Nat → Int32) → Int32} {α : Type} {f : Mem → Option α} {Q : α → Prop} (hc : RR n v F M)
    (k : ∀ M', (∀ i, i < 22 → M'.1 172 i = v.1 i) → RR n v F M' → FrR SR SS1 M M' → Ok (f M') Q) : Ok ((fX10_copies M).bind f) Q := by
  refine ok_call r_copies (fun M1 g => ?_)
  have e3 : M1.1 169 3 = nI n := by rw [g.2.2.1 3 (fun q => q)]; exact hc.2.1
  refine k M1 (fun i hi => by rw [g.1 i hi]; exact hc.2.2.1 i hi) ⟨hc.1, e3, fun i hi => by rw [g.2.1 171 (by omega) (by omega)]; exact hc.2.2.1 i hi, ruR_fr hc.2.2.2 (g.2.1 175 (by omega) (by omega)) (g.2.2.1 16 (fun q => q))⟩ (frR_sub g.2 (fun b _ hb => by unfold SR; omega) (fun i hi => hi.elim))
theorem c_later {M : Mem} {n R b d : Nat} {v : VV} {F : (Nat → Int32) → Int32} (hc : CR n v F R M) (hb : b < n) (hd : d ≤ 60) :
    Ok (fX9_later (nI b) (nI d) M) (QC ((days F n d v).1 (12 + b)) (some [((days F n d v).1 (6 + b)).toInt64, (nI (dts F n v d)).toInt64]) M) := by
  have hn : n ≤ 6 := hc.1.1
  have hh := has_in hc.2.1.1 hn hb
  rw [e_X9_later]
  simp (disch := omega) only [↓reduceIte, ic_t, ic_f, not_true_eq_false, not_false_eq_true, ↓lt_v, rdR, rdE, rdS, leT, leTc, leTd, leF, leFc, leFd, ltT, ltTc, ltTd, ltF, ltFc, ltFd, eqT, eqTc, eqTd, eqF, eqFc, eqFd, m1T, m1F, m1T', m1F', inb_nI, ix_nI, inb_c, ix_c, nI_1, nI_pred, nI_m1, add_nIc, add_cnI, bd_v, reduceCtorEq, eqFcc, m1e0, m1e1, m1l0, m1g0, m2l0, m2g0, Int32.reduceLT, Int32.reduceLE, Int32.reduceAdd, Int32.reduceSub, Int32.reduceMul, eq_self, Bool.false_eq_true, hh]
  refine c_trial hc (fun M1 g1 g2 g3 g4 => ?_)
  rw [g3]
  refine ok_call (c_pass hc.1 (by omega) hc.2.2.2.2 g1 g2.2.2.1 (by omega)) (fun q h => ?_)
  obtain ⟨h1, h2, h3, h4, h5⟩ := h
  have hT := h2.2.2.1 b hb
  have hP := h2.2.2.2.1 b hb
  simp (disch := omega) only [↓reduceIte, ic_t, ic_f, not_true_eq_false, not_false_eq_true, ↓lt_v, rdR, rdE, rdS, leT, leTc, leTd, leF, leFc, leFd, ltT, ltTc, ltTd, ltF, ltFc, ltFd, eqT, eqTc, eqTd, eqF, eqFc, eqFd, m1T, m1F, m1T', m1F', inb_nI, ix_nI, inb_c, ix_c, nI_1, nI_pred, nI_m1, add_nIc, add_cnI, bd_v, reduceCtorEq, eqFcc, m1e0, m1e1, m1l0, m1g0, m2l0, m2g0, Int32.reduceLT, Int32.reduceLE, Int32.reduceAdd, Int32.reduceSub, Int32.reduceMul, eq_self, Bool.false_eq_true, h1, hT]
  refine ok_call (c_tellB (kc_fr (fr_trans g4 (fr_SC h5 (by omega) hc.2.2.2.2)))) (fun M3 k => ?_)
  refine ok_some ⟨?_, k.1, k.2.1⟩
  rw [k.2.2.1 19 (by omega)]
  exact hP
theorem r_later {M : Mem} {n b d : Nat} {v : VV} {F : (Nat → Int32) → Int32} (hc : RR n v F M) (hb : b < n) (hd : d ≤ 60) :
    Ok (fX10_later (nI b) (nI d) M) (QR ((days F n d v).1 (12 + b)) (some [((days F n d v).1 (6 + b)).toInt64, (nI (dts F n v d)).toInt64]) M) := by
  have hn : n ≤ 6 := hc.1.1
  obtain ⟨hc0, hf0⟩ := r_thrown0 hc
  have hh := r_isBoat_in hc0.2.1 hn hb
  have hi : ∀ M : Mem, fX10_in (nI d).toInt64 0 60 M = some (1, M) := fun M => by rw [r_inI (lo := 0) (hi := 60) (by decide) (by decide), nI_toInt (by omega), if_pos (by omega)]
  rw [e_X10_later]
  simp (disch := omega) only [↓reduceIte, ic_t, ic_f, not_true_eq_false, not_false_eq_true, ↓lt_v, rdR, rdE, rdS, leT, leTc, leTd, leF, leFc, leFd, ltT, ltTc, ltTd, ltF, ltFc, ltFd, eqT, eqTc, eqTd, eqF, eqFc, eqFd, m1T, m1F, m1T', m1F', inb_nI, ix_nI, inb_c, ix_c, nI_1, nI_pred, nI_m1, add_nIc, add_cnI, bd_v, reduceCtorEq, eqFcc, m1e0, m1e1, m1l0, m1g0, m2l0, m2g0, Int32.reduceLT, Int32.reduceLE, Int32.reduceAdd, Int32.reduceSub, Int32.reduceMul, eq_self, Bool.false_eq_true, hh, hi]
  refine r_then hc0 (fun M1 g1 g2 g3 => ?_)
  refine ok_call (r_goesOn hc.1 ln172 (by omega) g2.2.1 g1 g2.2.2.2 (by omega)) (fun M2 h => ?_)
  obtain ⟨h1, h2, h3, h4, h5⟩ := h
  simp (disch := omega) only [↓reduceIte, ic_t, ic_f, not_true_eq_false, not_false_eq_true, ↓lt_v, rdR, rdE, rdS, leT, leTc, leTd, leF, leFc, leFd, ltT, ltTc, ltTd, ltF, ltFc, ltFd, eqT, eqTc, eqTd, eqF, eqFc, eqFd, m1T, m1F, m1T', m1F', inb_nI, ix_nI, inb_c, ix_c, nI_1, nI_pred, nI_m1, add_nIc, add_cnI, bd_v, reduceCtorEq, eqFcc, m1e0, m1e1, m1l0, m1g0, m2l0, m2g0, Int32.reduceLT, Int32.reduceLE, Int32.reduceAdd, Int32.reduceSub, Int32.reduceMul, eq_self, Bool.false_eq_true, h1]
  refine r_tell1 (kr_1 (frR_trans hf0 (frR_trans g3 (frR_SR h5 (by omega))))) (fun M3 k1 k2 k3 k4 => ?_)
  rw [k4 30 (by omega), h2]
  refine ok_call (r_enters (by simp) k1 k2) (fun M4 j => ok_some ⟨?_, j.1, j.2.1⟩)
  rw [j.2.2.1 172 (by omega), k3 172 (by omega)]
  exact h1 _ (by omega)
