/-! PURE: orders -/
def wI (n e : Nat) : Nat := sm (fac n) (fun j => if dayN n j < e then 1 else 0)
def eD (n d : Nat) : Nat := sm (fac n) (fun j => if dayN n j = d then 1 else 0)
theorem wI_succ {n d : Nat} : wI n (d + 1) = wI n d + eD n d := by
  unfold wI eD
  rw [← sm_add]
  refine sm_congr _ (fun j _ => ?_)
  by_cases c : dayN n j < d
  · rw [if_pos (by omega), if_pos c, if_neg (by omega)]
  · by_cases c2 : dayN n j = d
    · rw [if_pos (by omega), if_neg c, if_pos c2]
    · rw [if_neg (by omega), if_neg c, if_neg c2]
theorem sm_01 {P : Nat → Prop} [DecidablePred P] (m : Nat) : sm m (fun j => if P j then 1 else 0) ≤ m := sm_le m (fun i _ => by show (if P i then 1 else 0) ≤ 1; split <;> omega)
theorem c_within {M : Mem} {n e : Nat} (hn : n ≤ 6) (he : e ≤ 100) (hl : LawA n M) : fX1_ordersWithin (nI e - 1) M = some (nI (wI n e), M) := by
  have hFU : 2000 < FU := FU_big
  have hfl := fac_le hn
  have go : ∀ k, k ≤ fac n → fX1_ordersWithin (nI e - 1) M = fX1_ordersWithin_4 (FU - k) (nI e - 1) (nI (sm k (fun j => if dayN n j < e then 1 else 0))) (nI k) M := by
    intro k
    induction k with
    | zero => intro _; rw [e_X1_ordersWithin]; rfl
    | succ k ih =>
      intro hk
      have hd := hl.2.2.2.2.2 k (by omega)
      have dl := dayN_lt (n := n) (j := k)
      have e1 := hl.2.1
      have es : sm (k + 1) (fun j => if dayN n j < e then 1 else 0) = sm k (fun j => if dayN n j < e then 1 else 0) + (if dayN n k < e then 1 else 0) := rfl
      rw [ih (by omega), show FU - k = (FU - (k + 1)) + 1 by omega, e_X1_ordersWithin_4, es]
      by_cases c : dayN n k < e
      · obtain ⟨e', rfl⟩ : ∃ e', e = e' + 1 := ⟨e - 1, by omega⟩
        rw [if_pos c, nI_pred]
        simp (disch := omega) only [↓reduceIte, ic_t, ic_f, not_true_eq_false, not_false_eq_true, ↓lt_v, leT, leTc, leTd, leF, leFc, leFd, ltT, ltTc, ltTd, ltF, ltFc, ltFd, eqT, eqTc, eqTd, eqF, eqFc, eqFd, m1T, m1F, m1T', m1F', inb_nI, ix_nI, inb_c, ix_c, nI_1, nI_pred, nI_m1, add_nIc, add_cnI, bd_v, reduceCtorEq, eqFcc, m1e0, m1e1, m1l0, m1g0, m2l0, m2g0, Int32.reduceLT, Int32.reduceLE, Int32.reduceAdd, Int32.reduceSub, Int32.reduceMul, eq_self, Bool.false_eq_true, e1, hd]
      · have lt1 : (nI e - 1 < nI (dayN n k)) = True := by
          refine eq_true ?_
          cases e with
          | zero =>
            have : nI 0 - 1 = (-1 : Int32) := by decide
            rw [this, Int32.lt_iff_toInt_lt, nI_toInt (by omega)]
            have : (-1 : Int32).toInt = -1 := by decide
            omega
          | succ e => rw [nI_pred, lt_nI (by omega) (by omega)]; omega
        rw [if_neg c]
        simp (disch := omega) only [↓reduceIte, ic_t, ic_f, not_true_eq_false, not_false_eq_true, ↓lt_v, leT, leTc, leTd, leF, leFc, leFd, ltT, ltTc, ltTd, ltF, ltFc, ltFd, eqT, eqTc, eqTd, eqF, eqFc, eqFd, m1T, m1F, m1T', m1F', inb_nI, ix_nI, inb_c, ix_c, nI_1, nI_pred, nI_m1, add_nIc, add_cnI, bd_v, reduceCtorEq, eqFcc, m1e0, m1e1, m1l0, m1g0, m2l0, m2g0, Int32.reduceLT, Int32.reduceLE, Int32.reduceAdd, Int32.reduceSub, Int32.reduceMul, eq_self, Bool.false_eq_true, e1, hd, lt1]
  have e1 := hl.2.1
  rw [go _ (Nat.le_refl _), show FU - fac n = (FU - (fac n + 1)) + 1 by omega, e_X1_ordersWithin_4]
  simp (disch := omega) only [↓reduceIte, ic_t, ic_f, not_true_eq_false, not_false_eq_true, ↓lt_v, leT, leTc, leTd, leF, leFc, leFd, ltT, ltTc, ltTd, ltF, ltFc, ltFd, eqT, eqTc, eqTd, eqF, eqFc, eqFd, m1T, m1F, m1T', m1F', inb_nI, ix_nI, inb_c, ix_c, nI_1, nI_pred, nI_m1, add_nIc, add_cnI, bd_v, reduceCtorEq, eqFcc, m1e0, m1e1, m1l0, m1g0, m2l0, m2g0, Int32.reduceLT, Int32.reduceLE, Int32.reduceAdd, Int32.reduceSub, Int32.reduceMul, eq_self, Bool.false_eq_true, e1]
  rfl
theorem rn_inv {n : Nat} {v : VV} {s : Mem} (hw : WfV n v) (h : ∀ t, t < fac n → s.1 194 (RN n v.2 t) = nI (dayN n t)) : ∃ gi : Nat → Nat, (∀ a, a < fac n → gi a < fac n ∧ RN n v.2 (gi a) = a) ∧ (∀ t, t < fac n → gi (RN n v.2 t) = t) ∧ ∀ k, k < fac n → s.1 194 k = nI (dayN n (gi k)) := by
  obtain ⟨gi, i1, i2, i3⟩ := prm_inv (rn_prm hw.1 (wf_prm hw))
  have q : ∀ a, a < fac n → gi a < fac n ∧ RN n v.2 (gi a) = a := fun a ha => ⟨i1 a ha, (i3 a (gi a) ha (i1 a ha)).2 rfl⟩
  exact ⟨gi, q, i2, fun k hk => by have := h (gi k) (q k hk).1; rw [(q k hk).2] at this; exact this⟩
theorem r_orders {M : Mem} {n d : Nat} {v : VV} {F : (Nat → Int32) → Int32} (hc : RR n v F M) (hd : d ≤ 6) : Ok (fX10_orders (nI d) M) (QR (nI (wI n (d + 1))) (some [(nI (eD n d)).toInt64]) M) := by
  have hn : n ≤ 6 := hc.1.1
  have hfl := fac_le hn
  have f0 : ∀ N : Mem, fX10_flag 0 N = some (0, N) := fun N => r_flagI (Or.inl rfl)
  have f1 : ∀ N : Mem, fX10_flag 1 N = some (1, N) := fun N => r_flagI (Or.inr rfl)
  have hi : ∀ M : Mem, fX10_in (nI d).toInt64 0 6 M = some (1, M) := fun M => by rw [r_inI (lo := 0) (hi := 6) (by decide) (by decide), nI_toInt (by omega), if_pos (by omega)]
  rw [e_X10_orders]
  simp (disch := omega) only [↓reduceIte, ic_t, ic_f, not_true_eq_false, not_false_eq_true, ↓lt_v, rdR, rdE, rdS, leT, leTc, leTd, leF, leFc, leFd, ltT, ltTc, ltTd, ltF, ltFc, ltFd, eqT, eqTc, eqTd, eqF, eqFc, eqFd, m1T, m1F, m1T', m1F', inb_nI, ix_nI, inb_c, ix_c, nI_1, nI_pred, nI_m1, add_nIc, add_cnI, bd_v, reduceCtorEq, eqFcc, m1e0, m1e1, m1l0, m1g0, m2l0, m2g0, Int32.reduceLT, Int32.reduceLE, Int32.reduceAdd, Int32.reduceSub, Int32.reduceMul, eq_self, Bool.false_eq_true, hi]
  refine ok_call (r_laysSoon hc.1 (by simp (disch := omega) only [↓reduceIte, ic_t, ic_f, not_true_eq_false, not_false_eq_true, ↓lt_v, rdR, rdE, rdS, leT, leTc, leTd, leF, leFc, leFd, ltT, ltTc, ltTd, ltF, ltFc, ltFd, eqT, eqTc, eqTd, eqF, eqFc, eqFd, m1T, m1F, m1T', m1F', inb_nI, ix_nI, inb_c, ix_c, nI_1, nI_pred, nI_m1, add_nIc, add_cnI, bd_v, reduceCtorEq, eqFcc, m1e0, m1e1, m1l0, m1g0, m2l0, m2g0, Int32.reduceLT, Int32.reduceLE, Int32.reduceAdd, Int32.reduceSub, Int32.reduceMul, eq_self, Bool.false_eq_true]; exact hc.2.1) (fun i hi => by simp (disch := omega) only [↓reduceIte, ic_t, ic_f, not_true_eq_false, not_false_eq_true, ↓lt_v, rdR, rdE, rdS, leT, leTc, leTd, leF, leFc, leFd, ltT, ltTc, ltTd, ltF, ltFc, ltFd, eqT, eqTc, eqTd, eqF, eqFc, eqFd, m1T, m1F, m1T', m1F', inb_nI, ix_nI, inb_c, ix_c, nI_1, nI_pred, nI_m1, add_nIc, add_cnI, bd_v, reduceCtorEq, eqFcc, m1e0, m1e1, m1l0, m1g0, m2l0, m2g0, Int32.reduceLT, Int32.reduceLE, Int32.reduceAdd, Int32.reduceSub, Int32.reduceMul, eq_self, Bool.false_eq_true]; exact hc.2.2.1 i hi)) (fun s g => ?_)
  obtain ⟨g1, g2⟩ := g
  obtain ⟨gi, q1, q2, q3⟩ := rn_inv hc.1 g1
  have h3 : s.1 169 3 = nI n := by rw [g2.2.1 3 (by unfold S40; omega)]; simp (disch := omega) only [↓reduceIte, ic_t, ic_f, not_true_eq_false, not_false_eq_true, ↓lt_v, rdR, rdE, rdS, leT, leTc, leTd, leF, leFc, leFd, ltT, ltTc, ltTd, ltF, ltFc, ltFd, eqT, eqTc, eqTd, eqF, eqFc, eqFd, m1T, m1F, m1T', m1F', inb_nI, ix_nI, inb_c, ix_c, nI_1, nI_pred, nI_m1, add_nIc, add_cnI, bd_v, reduceCtorEq, eqFcc, m1e0, m1e1, m1l0, m1g0, m2l0, m2g0, Int32.reduceLT, Int32.reduceLE, Int32.reduceAdd, Int32.reduceSub, Int32.reduceMul, eq_self, Bool.false_eq_true]; exact hc.2.1
  have hm := r_many (s := s) n 11 (by omega) hn
  have hFU : 2000 < FU := FU_big
  have go : ∀ k, k ≤ fac n → fX10_orders_30 FU (nI d) 0 0 0 s = fX10_orders_30 (FU - k) (nI d) (nI (sm k (fun j => if dayN n (gi j) < d + 1 then 1 else 0))) (nI (sm k (fun j => if dayN n (gi j) = d then 1 else 0))) (nI k) s := by
    intro k
    induction k with
    | zero => intro _; rfl
    | succ k ih =>
      intro hk
      have hd1 := q3 k (by omega)
      have dl := dayN_lt (n := n) (j := gi k)
      have es : sm (k + 1) (fun j => if dayN n (gi j) < d + 1 then 1 else 0) = sm k (fun j => if dayN n (gi j) < d + 1 then 1 else 0) + (if dayN n (gi k) < d + 1 then 1 else 0) := rfl
      have es2 : sm (k + 1) (fun j => if dayN n (gi j) = d then 1 else 0) = sm k (fun j => if dayN n (gi j) = d then 1 else 0) + (if dayN n (gi k) = d then 1 else 0) := rfl
      rw [ih (by omega), show FU - k = (FU - (k + 1)) + 1 by omega, e_X10_orders_30, es, es2]
      by_cases c : dayN n (gi k) < d + 1
      · rw [if_pos c]
        by_cases c2 : dayN n (gi k) = d
        · rw [if_pos c2]
          simp (disch := omega) only [↓reduceIte, ic_t, ic_f, not_true_eq_false, not_false_eq_true, ↓lt_v, leT, leTc, leTd, leF, leFc, leFd, ltT, ltTc, ltTd, ltF, ltFc, ltFd, eqT, eqTc, eqTd, eqF, eqFc, eqFd, m1T, m1F, m1T', m1F', inb_nI, ix_nI, inb_c, ix_c, nI_1, nI_pred, nI_m1, add_nIc, add_cnI, bd_v, reduceCtorEq, eqFcc, m1e0, m1e1, m1l0, m1g0, m2l0, m2g0, Int32.reduceLT, Int32.reduceLE, Int32.reduceAdd, Int32.reduceSub, Int32.reduceMul, eq_self, Bool.false_eq_true, h3, hm, hd1, e_X10_orders_59, e_X10_orders_81, f0, f1]
        · rw [if_neg c2]
          simp (disch := omega) only [↓reduceIte, ic_t, ic_f, not_true_eq_false, not_false_eq_true, ↓lt_v, leT, leTc, leTd, leF, leFc, leFd, ltT, ltTc, ltTd, ltF, ltFc, ltFd, eqT, eqTc, eqTd, eqF, eqFc, eqFd, m1T, m1F, m1T', m1F', inb_nI, ix_nI, inb_c, ix_c, nI_1, nI_pred, nI_m1, add_nIc, add_cnI, bd_v, reduceCtorEq, eqFcc, m1e0, m1e1, m1l0, m1g0, m2l0, m2g0, Int32.reduceLT, Int32.reduceLE, Int32.reduceAdd, Int32.reduceSub, Int32.reduceMul, eq_self, Bool.false_eq_true, h3, hm, hd1, e_X10_orders_59, e_X10_orders_81, f0, f1]
      · rw [if_neg c, if_neg (by omega)]
        simp (disch := omega) only [↓reduceIte, ic_t, ic_f, not_true_eq_false, not_false_eq_true, ↓lt_v, leT, leTc, leTd, leF, leFc, leFd, ltT, ltTc, ltTd, ltF, ltFc, ltFd, eqT, eqTc, eqTd, eqF, eqFc, eqFd, m1T, m1F, m1T', m1F', inb_nI, ix_nI, inb_c, ix_c, nI_1, nI_pred, nI_m1, add_nIc, add_cnI, bd_v, reduceCtorEq, eqFcc, m1e0, m1e1, m1l0, m1g0, m2l0, m2g0, Int32.reduceLT, Int32.reduceLE, Int32.reduceAdd, Int32.reduceSub, Int32.reduceMul, eq_self, Bool.false_eq_true, h3, hm, hd1, e_X10_orders_59, e_X10_orders_81, f0, f1]
  have s1 : sm (fac n) (fun j => if dayN n (gi j) < d + 1 then 1 else 0) = wI n (d + 1) := by
    rw [← sm_prm (rn_prm hn (wf_prm hc.1)) (f := fun j => if dayN n (gi j) < d + 1 then 1 else 0)]
    exact sm_congr _ (fun t ht => by rw [q2 t ht])
  have s2 : sm (fac n) (fun j => if dayN n (gi j) = d then 1 else 0) = eD n d := by
    rw [← sm_prm (rn_prm hn (wf_prm hc.1)) (f := fun j => if dayN n (gi j) = d then 1 else 0)]
    exact sm_congr _ (fun t ht => by rw [q2 t ht])
  rw [go _ (Nat.le_refl _), show FU - fac n = (FU - (fac n + 1)) + 1 by omega, e_X10_orders_30, s1, s2]
  simp (disch := omega) only [↓reduceIte, ic_t, ic_f, not_true_eq_false, not_false_eq_true, ↓lt_v, rdR, rdE, rdS, leT, leTc, leTd, leF, leFc, leFd, ltT, ltTc, ltTd, ltF, ltFc, ltFd, eqT, eqTc, eqTd, eqF, eqFc, eqFd, m1T, m1F, m1T', m1F', inb_nI, ix_nI, inb_c, ix_c, nI_1, nI_pred, nI_m1, add_nIc, add_cnI, bd_v, reduceCtorEq, eqFcc, m1e0, m1e1, m1l0, m1g0, m2l0, m2g0, Int32.reduceLT, Int32.reduceLE, Int32.reduceAdd, Int32.reduceSub, Int32.reduceMul, eq_self, Bool.false_eq_true, h3, hm]
  have kr : KR M s := kr_1 (frR_trans (frR_sI (by omega) (by unfold SS1 SS; omega)) (frR_sub g2 (fun b _ hb => by unfold PSn at hb; unfold SR; omega) (fun i hi => by unfold S40 at hi; unfold SS1 SS; omega)))
  exact r_tell1 kr (fun M2 w1 w2 w3 w4 => ok_some ⟨rfl, w1, w2⟩)
theorem st_orders {M : Mem} {x : Int32} (h : Rel M) : StI (fun M => fX9_orders x M) (fun M => fX10_orders x M) M := by
  obtain ⟨S, hS, hc, hr⟩ := h
  have hn : S.1.1 ≤ 6 := hS.1.1
  have hfl := fac_le hn
  rcases range_cases x 0 6 (by omega) (by omega) with ⟨d, _, hd, rfl⟩ | ⟨hy, hy2⟩
  · refine st_law (x := nI (wI S.1.1 (d + 1))) (l := some [(nI (eD S.1.1 d)).toInt64]) hS hr (fun l' e => by cases e; simp) ?_ (fun M1 h1 => r_orders h1.1 hd)
    show Ok (fX9_orders (nI d) M) _
    have e0 : M.1 6 0 = nI S.1.1 := hc.1.2.1.1
    rw [e_X9_orders]
    simp (disch := omega) only [↓reduceIte, ic_t, ic_f, not_true_eq_false, not_false_eq_true, ↓lt_v, rdR, rdE, rdS, leT, leTc, leTd, leF, leFc, leFd, ltT, ltTc, ltTd, ltF, ltFc, ltFd, eqT, eqTc, eqTd, eqF, eqFc, eqFd, m1T, m1F, m1T', m1F', inb_nI, ix_nI, inb_c, ix_c, nI_1, nI_pred, nI_m1, add_nIc, add_cnI, bd_v, reduceCtorEq, eqFcc, m1e0, m1e1, m1l0, m1g0, m2l0, m2g0, Int32.reduceLT, Int32.reduceLE, Int32.reduceAdd, Int32.reduceSub, Int32.reduceMul, eq_self, Bool.false_eq_true, e0]
    refine ok_call (c_prepare hn hc.2.2.2.2.2.2.2) (fun M1 g => ?_)
    obtain ⟨g1, g2⟩ := g
    have w1 := c_within (e := d + 1) hn (by omega) g1
    rw [nI_pred] at w1
    rw [w1, bd_v, c_within (e := d) hn (by omega) g1, bd_v]
    have ed : nI (wI S.1.1 (d + 1)) - nI (wI S.1.1 d) = nI (eD S.1.1 d) := by
      rw [wI_succ, pk_sub (by omega)]
      congr 1
      omega
    rw [ed]
    exact ok_call (c_tell (M := M1) ⟨fun _ _ _ => rfl, fun _ _ => rfl, rfl⟩) (fun M2 t => ok_some ⟨M1, crel_law hc g2 (lawA_P hn g1), fr_cfr g2 (fun a ha => by unfold PL at ha; omega), rfl, t.1, t.2.1⟩)
  · refine st_no (x := -1) hS hc hr ?_ (fun M1 h1 => ?_)
    · show fX9_orders x M = _
      rw [e_X9_orders]
      rcases hy2 with q | q
      · simp (disch := omega) only [↓reduceIte, ic_t, ic_f, not_true_eq_false, not_false_eq_true, ↓lt_v, rdR, rdE, rdS, leT, leTc, leTd, leF, leFc, leFd, ltT, ltTc, ltTd, ltF, ltFc, ltFd, eqT, eqTc, eqTd, eqF, eqFc, eqFd, m1T, m1F, m1T', m1F', inb_nI, ix_nI, inb_c, ix_c, nI_1, nI_pred, nI_m1, add_nIc, add_cnI, bd_v, reduceCtorEq, eqFcc, m1e0, m1e1, m1l0, m1g0, m2l0, m2g0, Int32.reduceLT, Int32.reduceLE, Int32.reduceAdd, Int32.reduceSub, Int32.reduceMul, eq_self, Bool.false_eq_true, eq_true (show x < 0 from q)]
      · by_cases y0 : x < 0
        · simp (disch := omega) only [↓reduceIte, ic_t, ic_f, not_true_eq_false, not_false_eq_true, ↓lt_v, rdR, rdE, rdS, leT, leTc, leTd, leF, leFc, leFd, ltT, ltTc, ltTd, ltF, ltFc, ltFd, eqT, eqTc, eqTd, eqF, eqFc, eqFd, m1T, m1F, m1T', m1F', inb_nI, ix_nI, inb_c, ix_c, nI_1, nI_pred, nI_m1, add_nIc, add_cnI, bd_v, reduceCtorEq, eqFcc, m1e0, m1e1, m1l0, m1g0, m2l0, m2g0, Int32.reduceLT, Int32.reduceLE, Int32.reduceAdd, Int32.reduceSub, Int32.reduceMul, eq_self, Bool.false_eq_true, eq_true y0]
        · simp (disch := omega) only [↓reduceIte, ic_t, ic_f, not_true_eq_false, not_false_eq_true, ↓lt_v, rdR, rdE, rdS, leT, leTc, leTd, leF, leFc, leFd, ltT, ltTc, ltTd, ltF, ltFc, ltFd, eqT, eqTc, eqTd, eqF, eqFc, eqFd, m1T, m1F, m1T', m1F', inb_nI, ix_nI, inb_c, ix_c, nI_1, nI_pred, nI_m1, add_nIc, add_cnI, bd_v, reduceCtorEq, eqFcc, m1e0, m1e1, m1l0, m1g0, m2l0, m2g0, Int32.reduceLT, Int32.reduceLE, Int32.reduceAdd, Int32.reduceSub, Int32.reduceMul, eq_self, Bool.false_eq_true, eq_false y0, gt_nle (show (6 : Int32) < x from q)]
    · show fX10_orders x M1 = _
      have hin : fX10_in x.toInt64 0 6 (sI M1 169 0 0) = some (0, sI M1 169 0 0) := in_no (lo := 0) (hi := 6) (by decide) (by decide) hy
      rw [e_X10_orders]
      simp (disch := omega) only [↓reduceIte, ic_t, ic_f, not_true_eq_false, not_false_eq_true, ↓lt_v, rdR, rdE, rdS, leT, leTc, leTd, leF, leFc, leFd, ltT, ltTc, ltTd, ltF, ltFc, ltFd, eqT, eqTc, eqTd, eqF, eqFc, eqFd, m1T, m1F, m1T', m1F', inb_nI, ix_nI, inb_c, ix_c, nI_1, nI_pred, nI_m1, add_nIc, add_cnI, bd_v, reduceCtorEq, eqFcc, m1e0, m1e1, m1l0, m1g0, m2l0, m2g0, Int32.reduceLT, Int32.reduceLE, Int32.reduceAdd, Int32.reduceSub, Int32.reduceMul, eq_self, Bool.false_eq_true, hin]
