/-! PURE: sets -/
def mA1 (n s : Nat) (q : Nat × Nat) : Nat × Nat := (max q.1 (prs n (un n (sN n s))), (if q.1 < prs n (un n (sN n s)) then 0 else q.2) + (if prs n (un n (sN n s)) = max q.1 (prs n (un n (sN n s))) then 1 else 0))
def mA (n : Nat) : Nat → Nat × Nat
  | 0 => (0, 0)
  | s + 1 => mA1 n s (mA n s)
theorem mA_ok : ∀ n, n < 7 → mA n (setsN n) = (mostN n, alikeN n) := by decide +kernel
theorem mA_b {n : Nat} : ∀ s, (mA n s).1 ≤ n ∧ (mA n s).2 ≤ s
  | 0 => ⟨Nat.zero_le _, Nat.le_refl _⟩
  | s + 1 => by
    obtain ⟨h1, h2⟩ := mA_b (n := n) s
    have hp := prs_le (n := n) (o := un n (sN n s))
    refine ⟨by show max (mA n s).1 _ ≤ n; omega, ?_⟩
    show (if (mA n s).1 < prs n (un n (sN n s)) then 0 else (mA n s).2) + (if prs n (un n (sN n s)) = max (mA n s).1 (prs n (un n (sN n s))) then 1 else 0) ≤ s + 1
    split <;> split <;> omega
theorem r_pairsOf {M : Mem} {n s : Nat} (hn : n ≤ 6) (h0 : M.1 169 3 = nI n) (hs : s < 20) (hsf : s < setsN n) (hr : SetR n (setsN n) M) : fX10_pairsOf (nI s) M = some (nI (prs n (un n (sN n s))), M) := by
  have hFU : 2000 < FU := FU_big
  have f0 : ∀ N : Mem, fX10_flag 0 N = some (0, N) := fun N => r_flagI (Or.inl rfl)
  have f1 : ∀ N : Mem, fX10_flag 1 N = some (1, N) := fun N => r_flagI (Or.inr rfl)
  have hpm := (chk1_n hn (sN_lt hn hsf)).1
  have go : ∀ k, k ≤ n → fX10_pairsOf (nI s) M = fX10_pairsOf_4 (FU - k) (nI s) (nI (sm k (fun k => if k < un n (sN n s) k then 1 else 0))) (nI k) M := by
    intro k
    induction k with
    | zero => intro _; rw [e_X10_pairsOf]; rfl
    | succ k ih =>
      intro hk
      have hr1 := hr s hsf k (by omega)
      have ok := hpm.1 k (by omega)
      have e6 : 6 * nI s + nI k = nI (6 * s + k) := by rw [show (6 : Int32) = nI 6 from rfl, pk_mul, nI_add]
      have es : sm (k + 1) (fun k => if k < un n (sN n s) k then 1 else 0) = sm k (fun k => if k < un n (sN n s) k then 1 else 0) + (if k < un n (sN n s) k then 1 else 0) := rfl
      rw [ih (by omega), show FU - k = (FU - (k + 1)) + 1 by omega, e_X10_pairsOf_4, es]
      by_cases c : k < un n (sN n s) k
      · rw [if_pos c]
        simp (disch := omega) only [↓reduceIte, ic_t, ic_f, not_true_eq_false, not_false_eq_true, ↓lt_v, leT, leTc, leTd, leF, leFc, leFd, ltT, ltTc, ltTd, ltF, ltFc, ltFd, eqT, eqTc, eqTd, eqF, eqFc, eqFd, m1T, m1F, m1T', m1F', inb_nI, ix_nI, inb_c, ix_c, nI_1, nI_pred, nI_m1, add_nIc, add_cnI, bd_v, reduceCtorEq, eqFcc, m1e0, m1e1, m1l0, m1g0, m2l0, m2g0, Int32.reduceLT, Int32.reduceLE, Int32.reduceAdd, Int32.reduceSub, Int32.reduceMul, eq_self, Bool.false_eq_true, h0, e6, hr1, e_X10_pairsOf_33, f1]
      · rw [if_neg c]
        simp (disch := omega) only [↓reduceIte, ic_t, ic_f, not_true_eq_false, not_false_eq_true, ↓lt_v, leT, leTc, leTd, leF, leFc, leFd, ltT, ltTc, ltTd, ltF, ltFc, ltFd, eqT, eqTc, eqTd, eqF, eqFc, eqFd, m1T, m1F, m1T', m1F', inb_nI, ix_nI, inb_c, ix_c, nI_1, nI_pred, nI_m1, add_nIc, add_cnI, bd_v, reduceCtorEq, eqFcc, m1e0, m1e1, m1l0, m1g0, m2l0, m2g0, Int32.reduceLT, Int32.reduceLE, Int32.reduceAdd, Int32.reduceSub, Int32.reduceMul, eq_self, Bool.false_eq_true, h0, e6, hr1, e_X10_pairsOf_33, f0]
  rw [go n (Nat.le_refl _), show FU - n = (FU - (n + 1)) + 1 by omega, e_X10_pairsOf_4]
  simp (disch := omega) only [↓reduceIte, ic_t, ic_f, not_true_eq_false, not_false_eq_true, ↓lt_v, leT, leTc, leTd, leF, leFc, leFd, ltT, ltTc, ltTd, ltF, ltFc, ltFd, eqT, eqTc, eqTd, eqF, eqFc, eqFd, m1T, m1F, m1T', m1F', inb_nI, ix_nI, inb_c, ix_c, nI_1, nI_pred, nI_m1, add_nIc, add_cnI, bd_v, reduceCtorEq, eqFcc, m1e0, m1e1, m1l0, m1g0, m2l0, m2g0, Int32.reduceLT, Int32.reduceLE, Int32.reduceAdd, Int32.reduceSub, Int32.reduceMul, eq_self, Bool.false_eq_true, h0]
  rfl
theorem r_sets {M : Mem} {n : Nat} {v : VV} {F : (Nat → Int32) → Int32} (hc : RR n v F M) : Ok (fX10_sets M) (QR (nI (setsN n)) (some [(nI (mostN n)).toInt64, (nI (alikeN n)).toInt64]) M) := by
  have hn : n ≤ 6 := hc.1.1
  obtain ⟨s20, _, _⟩ := sets_le hn
  have f0 : ∀ N : Mem, fX10_flag 0 N = some (0, N) := fun N => r_flagI (Or.inl rfl)
  have f1 : ∀ N : Mem, fX10_flag 1 N = some (1, N) := fun N => r_flagI (Or.inr rfl)
  rw [e_X10_sets]
  simp (disch := omega) only [↓reduceIte, ic_t, ic_f, not_true_eq_false, not_false_eq_true, ↓lt_v, rdR, rdE, rdS, leT, leTc, leTd, leF, leFc, leFd, ltT, ltTc, ltTd, ltF, ltFc, ltFd, eqT, eqTc, eqTd, eqF, eqFc, eqFd, m1T, m1F, m1T', m1F', inb_nI, ix_nI, inb_c, ix_c, nI_1, nI_pred, nI_m1, add_nIc, add_cnI, bd_v, reduceCtorEq, eqFcc, m1e0, m1e1, m1l0, m1g0, m2l0, m2g0, Int32.reduceLT, Int32.reduceLE, Int32.reduceAdd, Int32.reduceSub, Int32.reduceMul, eq_self, Bool.false_eq_true]
  refine ok_call (r_laysSets hn (by simp (disch := omega) only [↓reduceIte, ic_t, ic_f, not_true_eq_false, not_false_eq_true, ↓lt_v, rdR, rdE, rdS, leT, leTc, leTd, leF, leFc, leFd, ltT, ltTc, ltTd, ltF, ltFc, ltFd, eqT, eqTc, eqTd, eqF, eqFc, eqFd, m1T, m1F, m1T', m1F', inb_nI, ix_nI, inb_c, ix_c, nI_1, nI_pred, nI_m1, add_nIc, add_cnI, bd_v, reduceCtorEq, eqFcc, m1e0, m1e1, m1l0, m1g0, m2l0, m2g0, Int32.reduceLT, Int32.reduceLE, Int32.reduceAdd, Int32.reduceSub, Int32.reduceMul, eq_self, Bool.false_eq_true]; exact hc.2.1)) (fun s1 g => ?_)
  obtain ⟨g1, g2, g3⟩ := g
  have h0 : s1.1 169 3 = nI n := by rw [g3.2.1 3 (by unfold S40; omega)]; simp (disch := omega) only [↓reduceIte, ic_t, ic_f, not_true_eq_false, not_false_eq_true, ↓lt_v, rdR, rdE, rdS, leT, leTc, leTd, leF, leFc, leFd, ltT, ltTc, ltTd, ltF, ltFc, ltFd, eqT, eqTc, eqTd, eqF, eqFc, eqFd, m1T, m1F, m1T', m1F', inb_nI, ix_nI, inb_c, ix_c, nI_1, nI_pred, nI_m1, add_nIc, add_cnI, bd_v, reduceCtorEq, eqFcc, m1e0, m1e1, m1l0, m1g0, m2l0, m2g0, Int32.reduceLT, Int32.reduceLE, Int32.reduceAdd, Int32.reduceSub, Int32.reduceMul, eq_self, Bool.false_eq_true]; exact hc.2.1
  have hFU : 2000 < FU := FU_big
  have go : ∀ k, k ≤ setsN n → fX10_sets_15 FU 0 0 0 s1 = fX10_sets_15 (FU - k) (nI (mA n k).1) (nI (mA n k).2) (nI k) s1 := by
    intro k
    induction k with
    | zero => intro _; rfl
    | succ k ih =>
      intro hk
      have hp := r_pairsOf (s := k) hn h0 (by omega) (by omega) g2
      have hpl := prs_le (n := n) (o := un n (sN n k))
      obtain ⟨b1, b2⟩ := mA_b (n := n) k
      rw [ih (by omega), show FU - k = (FU - (k + 1)) + 1 by omega, e_X10_sets_15]
      have em : mA n (k + 1) = mA1 n k (mA n k) := rfl
      rw [em]
      unfold mA1
      by_cases c1 : (mA n k).1 < prs n (un n (sN n k))
      · rw [if_pos c1, if_pos (by omega), show max (mA n k).1 (prs n (un n (sN n k))) = prs n (un n (sN n k)) by omega]
        simp (disch := omega) only [↓reduceIte, ic_t, ic_f, not_true_eq_false, not_false_eq_true, ↓lt_v, leT, leTc, leTd, leF, leFc, leFd, ltT, ltTc, ltTd, ltF, ltFc, ltFd, eqT, eqTc, eqTd, eqF, eqFc, eqFd, m1T, m1F, m1T', m1F', inb_nI, ix_nI, inb_c, ix_c, nI_1, nI_pred, nI_m1, add_nIc, add_cnI, bd_v, reduceCtorEq, eqFcc, m1e0, m1e1, m1l0, m1g0, m2l0, m2g0, Int32.reduceLT, Int32.reduceLE, Int32.reduceAdd, Int32.reduceSub, Int32.reduceMul, eq_self, Bool.false_eq_true, g1, hp, e_X10_sets_37, e_X10_sets_63, f0, f1]
        rfl
      · by_cases c2 : prs n (un n (sN n k)) = (mA n k).1
        · rw [if_neg c1, if_pos (by omega), show max (mA n k).1 (prs n (un n (sN n k))) = (mA n k).1 by omega]
          simp (disch := omega) only [↓reduceIte, ic_t, ic_f, not_true_eq_false, not_false_eq_true, ↓lt_v, leT, leTc, leTd, leF, leFc, leFd, ltT, ltTc, ltTd, ltF, ltFc, ltFd, eqT, eqTc, eqTd, eqF, eqFc, eqFd, m1T, m1F, m1T', m1F', inb_nI, ix_nI, inb_c, ix_c, nI_1, nI_pred, nI_m1, add_nIc, add_cnI, bd_v, reduceCtorEq, eqFcc, m1e0, m1e1, m1l0, m1g0, m2l0, m2g0, Int32.reduceLT, Int32.reduceLE, Int32.reduceAdd, Int32.reduceSub, Int32.reduceMul, eq_self, Bool.false_eq_true, g1, hp, e_X10_sets_37, e_X10_sets_63, f0, f1]
        · rw [if_neg c1, if_neg (by omega), show max (mA n k).1 (prs n (un n (sN n k))) = (mA n k).1 by omega]
          simp (disch := omega) only [↓reduceIte, ic_t, ic_f, not_true_eq_false, not_false_eq_true, ↓lt_v, leT, leTc, leTd, leF, leFc, leFd, ltT, ltTc, ltTd, ltF, ltFc, ltFd, eqT, eqTc, eqTd, eqF, eqFc, eqFd, m1T, m1F, m1T', m1F', inb_nI, ix_nI, inb_c, ix_c, nI_1, nI_pred, nI_m1, add_nIc, add_cnI, bd_v, reduceCtorEq, eqFcc, m1e0, m1e1, m1l0, m1g0, m2l0, m2g0, Int32.reduceLT, Int32.reduceLE, Int32.reduceAdd, Int32.reduceSub, Int32.reduceMul, eq_self, Bool.false_eq_true, g1, hp, e_X10_sets_37, e_X10_sets_63, f0, f1]
  rw [go _ (Nat.le_refl _), show FU - setsN n = (FU - (setsN n + 1)) + 1 by omega, e_X10_sets_15, mA_ok n (by omega)]
  simp (disch := omega) only [↓reduceIte, ic_t, ic_f, not_true_eq_false, not_false_eq_true, ↓lt_v, rdR, rdE, rdS, leT, leTc, leTd, leF, leFc, leFd, ltT, ltTc, ltTd, ltF, ltFc, ltFd, eqT, eqTc, eqTd, eqF, eqFc, eqFd, m1T, m1F, m1T', m1F', inb_nI, ix_nI, inb_c, ix_c, nI_1, nI_pred, nI_m1, add_nIc, add_cnI, bd_v, reduceCtorEq, eqFcc, m1e0, m1e1, m1l0, m1g0, m2l0, m2g0, Int32.reduceLT, Int32.reduceLE, Int32.reduceAdd, Int32.reduceSub, Int32.reduceMul, eq_self, Bool.false_eq_true, g1]
  have kr : KR M s1 := kr_1 (frR_trans (frR_sI (by omega) (by unfold SS1 SS; omega)) (frR_sub g3 (fun b _ hb => by unfold PPr at hb; unfold SR; omega) (fun i hi => by unfold S40 at hi; unfold SS1 SS; omega)))
  obtain ⟨z1, z2⟩ := r_zero kr
  refine ok_call (r_enters (l := []) (by simp) z1 z2) (fun M4 t => ?_)
  refine ok_call (r_enters (l := [(nI (mostN n)).toInt64]) (by simp) t.1 t.2.1) (fun M5 u => ok_some ⟨?_, u.1, u.2.1⟩)
  rw [u.2.2.2 40 (by omega), t.2.2.2 40 (by omega)]
  simp (disch := omega) only [↓reduceIte, ic_t, ic_f, not_true_eq_false, not_false_eq_true, ↓lt_v, rdR, rdE, rdS, leT, leTc, leTd, leF, leFc, leFd, ltT, ltTc, ltTd, ltF, ltFc, ltFd, eqT, eqTc, eqTd, eqF, eqFc, eqFd, m1T, m1F, m1T', m1F', inb_nI, ix_nI, inb_c, ix_c, nI_1, nI_pred, nI_m1, add_nIc, add_cnI, bd_v, reduceCtorEq, eqFcc, m1e0, m1e1, m1l0, m1g0, m2l0, m2g0, Int32.reduceLT, Int32.reduceLE, Int32.reduceAdd, Int32.reduceSub, Int32.reduceMul, eq_self, Bool.false_eq_true]
  exact g1
theorem crel_law {S : SP} {M M' : Mem} (h : CRel S M) (hf : Fr PL M M') (hl : LawP M') : CRel S M' := by
  obtain ⟨h1, h2, h3, h4, h5, h6, h7, h8⟩ := h
  have e1 : ∀ a, ¬ PL a → M'.1 a = M.1 a := hf.1
  have e3 : M'.2.2 = M.2.2 := by rw [hf.2]
  have e4 : M'.2.1 = M.2.1 := by rw [hf.2]
  have hR := h1.2.2.2.2
  have hrv : ∀ r n v, (6 ≤ r ∧ r + 4 ≤ 10) ∨ (26 ≤ r ∧ r + 4 ≤ 107) ∨ 154 ≤ r → RvC r n v M → RvC r n v M' := fun r n v hr h => rivC_fr h (fun a a1 a2 => e1 a (by unfold PL; omega))
  unfold CRel
  rw [e3]
  refine ⟨⟨h1.1, hrv 6 _ _ (by omega) h1.2.1, ruC_fr h1.2.2.1 (e1 _ (by unfold PL; omega)) (e1 _ (by unfold PL; omega)), by rw [e3], hR⟩, h2, ?_, ?_, ?_, ?_, ?_, hl⟩
  · unfold TxC; rw [e1 2 (by unfold PL; omega), e1 3 (by unfold PL; omega)]; exact h3
  · unfold RwC; rw [e1 4 (by unfold PL; omega), e4]; exact h4
  · unfold PsC; rw [e1 26 (by unfold PL; omega), e3]
    refine ⟨h5.1, h5.2.1, h5.2.2.1, h5.2.2.2.1, fun j hj => ?_⟩
    obtain ⟨c, hc, ec⟩ := h5.2.2.1 j (by have := h5.1; omega)
    exact hrv _ _ _ (by omega) (h5.2.2.2.2 j hj)
  · unfold KpC; rw [e1 104 (by unfold PL; omega), e3]
    exact fun i hi => ⟨(h6 i hi).1, fun hk => hrv _ _ _ (by omega) ((h6 i hi).2 hk)⟩
  · unfold HC; rw [e1 105 (by unfold PL; omega), e1 106 (by unfold PL; omega), e1 107 (by unfold PL; omega)]; exact h7
theorem fr_cfr {P : Nat → Prop} {M M' : Mem} (h : Fr P M M') (hp : ∀ a, P a → a < 169) : CFr M M' := fun a ha => ⟨h.1 a (fun q => by have := hp a q; omega), by rw [h.2]⟩
/-- the class makes its tables first -/
theorem st_law {S : SP} {M : Mem} {fC fR : Mem → Option (Int32 × Mem)} {x : Int32} {l : Option (List Int64)} (hS : spOK S) (hr : RRel S M) (hl : ∀ l', l = some l' → l'.length ≤ 16)
    (qc : Ok (fC M) (fun q => ∃ M0, CRel S M0 ∧ CFr M M0 ∧ QC x l M0 q)) (qr : ∀ M1, RRel S M1 → Ok (fR M1) (QR x l M1)) : StI fC fR M :=
  st_gen (S' := rowS S l) (x := x) (ok_rowS hS hl) hr (ok_mono qc (fun q ⟨M0, h0, hf, h⟩ => ⟨h.1, crel_q h0 h.2.1 h.2.2, fun a ha => ⟨((kc_cfr h.2.1) a ha).1.trans (hf a ha).1, ((kc_cfr h.2.1) a ha).2.trans (hf a ha).2⟩⟩)) (fun M1 h1 => ok_mono (qr M1 h1) (fun q h => ⟨h.1, rrel_q h1 h.2.1 h.2.2, kr_rfr h.2.1⟩))
theorem st_sets {M : Mem} (h : Rel M) : StI (fun M => fX9_sets M) (fun M => fX10_sets M) M := by
  obtain ⟨S, hS, hc, hr⟩ := h
  have hn : S.1.1 ≤ 6 := hS.1.1
  refine st_law (x := nI (setsN S.1.1)) (l := some [(nI (mostN S.1.1)).toInt64, (nI (alikeN S.1.1)).toInt64]) hS hr (fun l' e => by cases e; simp) ?_ (fun M1 h1 => r_sets h1.1)
  show Ok (fX9_sets M) _
  have e0 : M.1 6 0 = nI S.1.1 := hc.1.2.1.1
  rw [e_X9_sets, e0]
  refine ok_call (c_prepare hn hc.2.2.2.2.2.2.2) (fun M1 g => ?_)
  obtain ⟨g1, g2⟩ := g
  rw [g1.2.2.2.1, g1.2.2.2.2.1]
  refine ok_call (c_tellB (M := M1) ⟨fun _ _ _ => rfl, fun _ _ => rfl, rfl⟩) (fun M2 t => ok_some ⟨M1, crel_law hc g2 (lawA_P hn g1), fr_cfr g2 (fun a ha => by unfold PL at ha; omega), ?_, t.1, t.2.1⟩)
  show M2.1 115 2 = _
  rw [t.2.2.1 115 (by omega)]
  exact g1.2.2.1
