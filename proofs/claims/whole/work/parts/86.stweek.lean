/-! PURE: week -/
theorem crel_empty {S : SP} {M : Mem} (h : CRel S M) : CRel (emS S) (sI M 2 1 0) := by
  have hR := h.1.2.2.2.2
  have hc0 := h
  obtain ⟨h1, h2, h3, h4, h5, h6, h7, h8⟩ := h
  exact crel_all hc0 ⟨rfl, rfl⟩ h1.1 ⟨rfl, rfl⟩ ⟨row_n (by omega), row_n (by omega)⟩ (rivC_fr h1.2.1 (fun a _ _ => row_n (by omega))) ⟨Nat.zero_le _, rdE rfl rfl, fun i hi => absurd hi (Nat.not_lt_zero _)⟩ (rwC_fr h4 (row_n (by omega)) rfl) (psC_fr h5 (fun a _ _ => row_n (by omega)) rfl) (kpC_fr h6 (fun a ha => row_n (by omega)) rfl) (hC_fr h7 (fun a ha => row_n (by omega))) ⟨row_n (by omega), row_n (by omega)⟩
theorem wE_le {m p e : Nat} {f : Nat → Nat} (h : wE m f p = some e) : e ≤ p + 2 := by
  unfold wE at h
  split at h
  · injection h with h; omega
  · split at h
    · injection h with h; omega
    · split at h
      · injection h with h; omega
      · cases h
def wkS (S : SP) (ps : Nat × (Nat → VV)) (v : VV) : SP := ((S.1.1, v, S.1.2.2), (0, S.2.1.2), S.2.2.1, ps, S.2.2.2.2)
theorem c_wk137 {S : SP} {M : Mem} {x2 x4 : Int32} (h : CRel S M) : Ok (fX9_week_137 x2 x4 M) (fun q => q.1 = x2 ∧ CRel (rowS S (some [if x4 = 0 then 0 else 1, (S.1.2.1.1 20).toInt64])) q.2 ∧ CFr M q.2) := by
  have e7 : M.1 6 7 = S.1.2.1.1 20 := h.1.2.1.2.2.2.2.2.2.2.1
  rw [e_X9_week_137]
  by_cases c : x4 = 0
  · rw [ic_pos c, if_pos c, e_X9_week_151, e7]
    exact ok_call (c_tellB (kc_rfl (M := M))) (fun M5 t => ok_some ⟨rfl, crel_q h t.1 t.2.1, kc_cfr t.1⟩)
  · rw [ic_neg c, if_neg c, e_X9_week_151, e7]
    exact ok_call (c_tellB (kc_rfl (M := M))) (fun M5 t => ok_some ⟨rfl, crel_q h t.1 t.2.1, kc_cfr t.1⟩)
theorem c_wkfin {S : SP} {M M1 M2 : Mem} {j : Nat} {v : VV} {ps : Nat × (Nat → VV)} {x4 : Int32} (hj : j ≤ 30) (hc : CRel S M) (hw : WfV S.1.1 v) (hb : RvC 11 S.1.1 S.1.2.1 M1) (hf1 : Fr (fun a => 11 ≤ a ∧ a ≤ 15) M M1) (hv : RvC 6 S.1.1 v M2) (hf2 : Fr (PDy 6 (M.2.2 1 17)) M1 M2) (hps : ps = if j = 0 then S.2.2.2.1 else pushU S.2.2.2.1.1 S.2.2.2.1.2 S.1.2.1) : Ok (fX9_week_114 (nI j) x4 M2) (fun q => q.1 = nI j ∧ CRel (rowS (wkS S ps v) (some [if x4 = 0 then 0 else 1, (v.1 20).toInt64])) q.2 ∧ CFr M q.2) := by
  have hR := hc.1.2.2.2.2
  have hn : S.1.1 ≤ 6 := hw.1
  have ro : ∀ a, ¬ (11 ≤ a ∧ a ≤ 15) → ¬ PDy 6 (M.2.2 1 17) a → M2.1 a = M.1 a := fun a c1 c2 => by rw [hf2.1 a c2, hf1.1 a c1]
  have re : M2.2 = M.2 := by rw [hf2.2, hf1.2]
  have st2 : CRel (setV S v) M2 := crel_make hc ⟨rfl, rfl, rfl, rfl, rfl⟩ hw (fun a ha ha2 => ro a (by omega) (by unfold PDy; unfold SC at ha2; omega)) (by rw [re]) (fun a i _ => by rw [re]) hv (psC_fr hc.2.2.2.2.1 (fun a _ _ => ro a (by omega) (by unfold PDy; omega)) (by rw [re]))
  have st3 := crel_empty st2
  have cf2 : CFr M (sI M2 2 1 0) := fun a ha => ⟨by rw [row_n (by omega)]; exact ro a (by omega) (by unfold PDy; omega), by show M2.2.1 a = _; rw [re]⟩
  have hb3 : RvC 11 S.1.1 S.1.2.1 (sI M2 2 1 0) := rivC_fr hb (fun a _ _ => by rw [row_n (by omega), hf2.1 a (by unfold PDy; omega)])
  rw [e_X9_week_114]
  by_cases j0 : j = 0
  · rw [if_pos j0] at hps
    simp (disch := omega) only [↓reduceIte, ic_t, ic_f, not_true_eq_false, not_false_eq_true, ↓lt_v, rdR, rdE, rdS, leT, leTc, leTd, leF, leFc, leFd, ltT, ltTc, ltTd, ltF, ltFc, ltFd, eqT, eqTc, eqTd, eqF, eqFc, eqFd, m1T, m1F, m1T', m1F', inb_nI, ix_nI, inb_c, ix_c, nI_1, nI_pred, nI_m1, add_nIc, add_cnI, bd_v, reduceCtorEq, eqFcc, m1e0, m1e1, m1l0, m1g0, m2l0, m2g0, Int32.reduceLT, Int32.reduceLE, Int32.reduceAdd, Int32.reduceSub, Int32.reduceMul, eq_self, Bool.false_eq_true]
    refine ok_mono (c_wk137 st3) (fun q k => ⟨k.1, ?_, fun a ha => ⟨by rw [(k.2.2 a ha).1, (cf2 a ha).1], by rw [(k.2.2 a ha).2, (cf2 a ha).2]⟩⟩)
    rw [hps]
    exact k.2.1
  · rw [if_neg j0] at hps
    simp (disch := omega) only [↓reduceIte, ic_t, ic_f, not_true_eq_false, not_false_eq_true, ↓lt_v, rdR, rdE, rdS, leT, leTc, leTd, leF, leFc, leFd, ltT, ltTc, ltTd, ltF, ltFc, ltFd, eqT, eqTc, eqTd, eqF, eqFc, eqFd, m1T, m1F, m1T', m1F', inb_nI, ix_nI, inb_c, ix_c, nI_1, nI_pred, nI_m1, add_nIc, add_cnI, bd_v, reduceCtorEq, eqFcc, m1e0, m1e1, m1l0, m1g0, m2l0, m2g0, Int32.reduceLT, Int32.reduceLE, Int32.reduceAdd, Int32.reduceSub, Int32.reduceMul, eq_self, Bool.false_eq_true]
    refine ok_call (c_push hn st3.2.2.2.2.1 hb3 (Or.inr rfl)) (fun M4 p => ?_)
    obtain ⟨p1, p2⟩ := p
    have st4 : CRel (wkS S ps v) M4 := crel_make st3 ⟨rfl, rfl, rfl, rfl, rfl⟩ hw (fun a ha ha2 => p2.1 a (by omega)) p2.2.1 p2.2.2 (rivC_fr st3.1.2.1 (fun a _ _ => p2.1 a (by omega))) (by rw [hps]; exact p1)
    refine ok_mono (c_wk137 st4) (fun q k => ⟨k.1, k.2.1, fun a ha => ⟨by rw [(k.2.2 a ha).1, p2.1 a (by omega), (cf2 a ha).1], by rw [(k.2.2 a ha).2, p2.2.1, (cf2 a ha).2]⟩⟩)
theorem r_wkfin {S : SP} {M s M2 s2 : Mem} {j K : Nat} {v : VV} {ps : Nat × (Nat → VV)} (hS : spOK S) (hj : j ≤ K) (hK : K ≤ 30) (hr : RRel S M) (hw : WfV S.1.1 v) (hf : FrR (fun a => a = 186 ∨ a = 187 ∨ a = 188) (fun i => i = 0 ∨ i = 8 ∨ i = 9 ∨ i = 10 ∨ i = 11 ∨ i = 34) M s) (h8 : s.1 169 8 = nI 0) (h34 : s.1 169 34 = nI K)
    (g1 : ∀ i, i < 22 → M2.1 185 (22 * S.2.2.2.1.1 + i) = s.1 171 i) (g2 : ∀ k, k < 22 * S.2.2.2.1.1 → M2.1 185 k = s.1 185 k) (g3 : FrR (fun a => a = 185) (fun _ => False) s M2) (hv : ∀ i, i < 22 → s2.1 171 i = v.1 i) (hk : FrR (PDr 171) SDr M2 s2) (hps : ps = if j = 0 then S.2.2.2.1 else pushU S.2.2.2.1.1 S.2.2.2.1.2 S.1.2.1) :
    Ok (fX10_week_88 (nI j) s2) (fun q => q.1 = nI j ∧ RRel (rowS (wkS S ps v) (some [if j = K then 0 else 1, (v.1 20).toInt64])) q.2 ∧ RFr M q.2) := by
  have hr0 := hr
  have h15 := hS.2.2.1
  obtain ⟨h1, h2, h3, h4, h5, h6⟩ := hr
  have f1 : ∀ a, a ≠ 169 → a ≠ 185 → ¬ (186 ≤ a ∧ a ≤ 188) → ¬ PDr 171 a → s2.1 a = M.1 a := fun a c1 c2 c3 c4 => by rw [hk.1 a c1 c4, g3.1 a c1 c2, hf.1 a c1 (by omega)]
  have f2 : ∀ i, ¬ (i = 0 ∨ i = 8 ∨ i = 9 ∨ i = 10 ∨ i = 11 ∨ i = 34) → ¬ SDr i → s2.1 169 i = M.1 169 i := fun i c1 c2 => by rw [hk.2.1 i c2, g3.2.1 i (fun q => q), hf.2.1 i c1]
  have re : s2.2 = M.2 := by rw [hk.2.2, g3.2.2, hf.2.2]
  have s8 : s2.1 169 8 = nI 0 := by rw [hk.2.1 8 (by unfold SDr; omega), g3.2.1 8 (fun q => q)]; exact h8
  have s34 : s2.1 169 34 = nI K := by rw [hk.2.1 34 (by unfold SDr; omega), g3.2.1 34 (fun q => q)]; exact h34
  have s28 : s2.1 169 28 = nI S.2.2.2.1.1 := by rw [f2 28 (by omega) (by unfold SDr; omega)]; exact h4.1
  have r185 : s2.1 185 = M2.1 185 := hk.1 185 (by omega) (by unfold PDr; omega)
  have old : ∀ j, j < S.2.2.2.1.1 → ∀ i, i < 22 → s2.1 185 (22 * j + i) = (S.2.2.2.1.2 j).1 i := fun j hj i hi => by
    rw [r185, g2 _ (by omega), hf.1 185 (by omega) (by omega)]
    exact h4.2 j hj i hi
  have hnew : ∀ i, i < 22 → s2.1 185 (22 * S.2.2.2.1.1 + i) = S.1.2.1.1 i := fun i hi => by
    rw [r185, g1 i hi, hf.1 171 (by omega) (by omega)]
    exact h1.2.2.1 i hi
  have st2 : RRel (wkS S S.2.2.2.1 v) s2 := rrel_all hr0 ⟨rfl, rfl⟩ hw (f1 175 (by omega) (by omega) (by omega) (by unfold PDr; omega)) (fun i hi => f2 i (by omega) (by unfold SDr; omega)) hv ⟨Nat.zero_le _, s8, fun i hi => absurd hi (Nat.not_lt_zero _)⟩ (rwR_fr h3 (f2 1 (by omega) (by unfold SDr; omega)) (by rw [re])) ⟨s28, old⟩ (kpR_fr h5 (f2 4 (by omega) (by unfold SDr; omega)) (fun a ha => f1 a (by omega) (by omega) (by omega) (by unfold PDr; omega))) (hR_fr h6 (f2 45 (by omega) (by unfold SDr; omega)) (fun a ha => f1 a (by omega) (by omega) (by omega) (by unfold PDr; omega)))
  have go : ∀ (x : Int32) (z : Int64), (x = 0 ∨ x = 1) → x.toInt64 = z → Ok (fX10_week_108 (nI j) x (sI s2 169 1 0)) (fun q => q.1 = nI j ∧ RRel (rowS (wkS S ps v) (some [z, (v.1 20).toInt64])) q.2 ∧ RFr M q.2) := by
    intro x z hx hz
    have hfl : fX10_flag x (sI s2 169 1 0) = some (x, sI s2 169 1 0) := r_flagI hx
    obtain ⟨z1, z2⟩ := r_zero (kr_rfl (M := s2))
    rw [e_X10_week_108, hfl, bd_v, hz]
    refine ok_call (r_enters (l := []) (by simp) z1 z2) (fun M4 t => ?_)
    have e20 : M4.1 171 20 = v.1 20 := by rw [t.2.2.1 171 (by omega), row_n (by omega)]; exact hv 20 (by omega)
    simp (disch := omega) only [↓reduceIte, ic_t, ic_f, not_true_eq_false, not_false_eq_true, ↓lt_v, rdR, rdE, rdS, leT, leTc, leTd, leF, leFc, leFd, ltT, ltTc, ltTd, ltF, ltFc, ltFd, eqT, eqTc, eqTd, eqF, eqFc, eqFd, m1T, m1F, m1T', m1F', inb_nI, ix_nI, inb_c, ix_c, nI_1, nI_pred, nI_m1, add_nIc, add_cnI, bd_v, reduceCtorEq, eqFcc, m1e0, m1e1, m1l0, m1g0, m2l0, m2g0, Int32.reduceLT, Int32.reduceLE, Int32.reduceAdd, Int32.reduceSub, Int32.reduceMul, eq_self, Bool.false_eq_true, e20]
    refine ok_call (r_enters (l := [z]) (by simp) t.1 t.2.1) (fun M5 u => ?_)
    have st5 : RRel (rowS (wkS S S.2.2.2.1 v) (some [z, (v.1 20).toInt64])) M5 := rrel_q st2 u.1 u.2.1
    have rf5 : RFr M M5 := ⟨fun a ha => ⟨by rw [u.1.1 a (by omega) (by unfold SR; omega)]; exact f1 a (by omega) (by omega) (by omega) (by unfold PDr; omega), by rw [u.1.2.2.1 a (by omega), re]⟩, by rw [u.1.2.2.2, re]⟩
    have row5 : ∀ a, a ≠ 169 → M5.1 a = s2.1 a := fun a ha => by rw [u.2.2.1 a ha, t.2.2.1 a ha, row_n ha]
    have slot5 : ∀ i, i ≠ 1 → M5.1 169 i = s2.1 169 i := fun i hi => by rw [u.2.2.2 i hi, t.2.2.2 i hi, rdS hi]
    by_cases j0 : j = 0
    · rw [if_pos j0] at hps
      simp (disch := omega) only [↓reduceIte, ic_t, ic_f, not_true_eq_false, not_false_eq_true, ↓lt_v, rdR, rdE, rdS, leT, leTc, leTd, leF, leFc, leFd, ltT, ltTc, ltTd, ltF, ltFc, ltFd, eqT, eqTc, eqTd, eqF, eqFc, eqFd, m1T, m1F, m1T', m1F', inb_nI, ix_nI, inb_c, ix_c, nI_1, nI_pred, nI_m1, add_nIc, add_cnI, bd_v, reduceCtorEq, eqFcc, m1e0, m1e1, m1l0, m1g0, m2l0, m2g0, Int32.reduceLT, Int32.reduceLE, Int32.reduceAdd, Int32.reduceSub, Int32.reduceMul, eq_self, Bool.false_eq_true]
      rw [hps]
      exact ok_some ⟨by rw [j0]; rfl, st5, rf5⟩
    · rw [if_neg j0] at hps
      simp (disch := omega) only [↓reduceIte, ic_t, ic_f, not_true_eq_false, not_false_eq_true, ↓lt_v, rdR, rdE, rdS, leT, leTc, leTd, leF, leFc, leFd, ltT, ltTc, ltTd, ltF, ltFc, ltFd, eqT, eqTc, eqTd, eqF, eqFc, eqFd, m1T, m1F, m1T', m1F', inb_nI, ix_nI, inb_c, ix_c, nI_1, nI_pred, nI_m1, add_nIc, add_cnI, bd_v, reduceCtorEq, eqFcc, m1e0, m1e1, m1l0, m1g0, m2l0, m2g0, Int32.reduceLT, Int32.reduceLE, Int32.reduceAdd, Int32.reduceSub, Int32.reduceMul, eq_self, Bool.false_eq_true]
      refine ok_call (r_adds (n := S.1.1) h15 (by rw [slot5 28 (by omega)]; exact s28) (by rw [row5 185 (by omega)]; exact old) (by rw [row5 185 (by omega)]; exact hnew)) (fun q p => ok_some ?_)
      obtain ⟨p1, p2, p3⟩ := p
      refine ⟨p1, rrel_make st5 ⟨rfl, rfl, rfl, rfl, rfl⟩ hw (fun a c1 c2 c3 _ => p3.1 a c1 c3) (fun i c1 c2 _ => p3.2.1 i c1) (p3.2.1 1 (by omega)) (by rw [p3.2.2]) (fun i hi => by rw [p3.1 171 (by omega) (by omega), row5 171 (by omega)]; exact hv i hi) (by rw [hps]; exact p2), fun a ha => ⟨by rw [p3.1 a (by omega) (by omega)]; exact (rf5.1 a ha).1, by rw [p3.2.2]; exact (rf5.1 a ha).2⟩, by rw [p3.2.2]; exact rf5.2⟩
  rw [e_X10_week_88]
  by_cases c : j = K
  · rw [if_pos c]
    simp (disch := omega) only [↓reduceIte, ic_t, ic_f, not_true_eq_false, not_false_eq_true, ↓lt_v, rdR, rdE, rdS, leT, leTc, leTd, leF, leFc, leFd, ltT, ltTc, ltTd, ltF, ltFc, ltFd, eqT, eqTc, eqTd, eqF, eqFc, eqFd, m1T, m1F, m1T', m1F', inb_nI, ix_nI, inb_c, ix_c, nI_1, nI_pred, nI_m1, add_nIc, add_cnI, bd_v, reduceCtorEq, eqFcc, m1e0, m1e1, m1l0, m1g0, m2l0, m2g0, Int32.reduceLT, Int32.reduceLE, Int32.reduceAdd, Int32.reduceSub, Int32.reduceMul, eq_self, Bool.false_eq_true, s34]
    exact go 0 0 (Or.inl rfl) rfl
  · rw [if_neg c]
    simp (disch := omega) only [↓reduceIte, ic_t, ic_f, not_true_eq_false, not_false_eq_true, ↓lt_v, rdR, rdE, rdS, leT, leTc, leTd, leF, leFc, leFd, ltT, ltTc, ltTd, ltF, ltFc, ltFd, eqT, eqTc, eqTd, eqF, eqFc, eqFd, m1T, m1F, m1T', m1F', inb_nI, ix_nI, inb_c, ix_c, nI_1, nI_pred, nI_m1, add_nIc, add_cnI, bd_v, reduceCtorEq, eqFcc, m1e0, m1e1, m1l0, m1g0, m2l0, m2g0, Int32.reduceLT, Int32.reduceLE, Int32.reduceAdd, Int32.reduceSub, Int32.reduceMul, eq_self, Bool.false_eq_true, s34]
    exact go 1 1 (Or.inr rfl) rfl
theorem spOK_wkS {S : SP} {ps : Nat × (Nat → VV)} {v : VV} {j : Nat} (hS : spOK S) (hw : WfV S.1.1 v) (hps : ps = if j = 0 then S.2.2.2.1 else pushU S.2.2.2.1.1 S.2.2.2.1.2 S.1.2.1) : spOK (wkS S ps v) := by
  by_cases j0 : j = 0
  · rw [if_pos j0] at hps
    rw [hps]
    exact ⟨hw, hS.2⟩
  · rw [if_neg j0] at hps
    rw [hps]
    exact ok_actS hS hw
theorem st_week {M : Mem} (h : Rel M) : StI (fun M => fX9_week M) (fun M => fX10_week M) M := by
  obtain ⟨S, hS, hc, hr⟩ := h
  have hn : S.1.1 ≤ 6 := hS.1.1
  have hR := hc.1.2.2.2.2
  have hL := hc.2.2.1.1
  have hFU : 2000 < FU := FU_big
  obtain ⟨K, hK, hall, hend⟩ := wk_ex (L := S.2.1.1) (m := min S.2.1.1 60) (f := S.2.1.2) (by omega)
  have hle := wP_le K (fun i hi => (hall i hi).1)
  have cw := c_weekFault hc.2.2.1 hK hall
  -- the reference begins
  have rb : ∀ (M1 : Mem) (Q : Int32 × Mem → Prop), RRel S M1 → (∀ N : Mem, FrR (fun _ => False) (fun i => i = 0 ∨ i = 8 ∨ i = 9 ∨ i = 10 ∨ i = 11 ∨ i = 34) M1 N → N.1 169 8 = nI 0 → WkR (min S.2.1.1 60) 0 (wP S.2.1.2 0) S.2.1.2 N N → Ok (fX10_week_19 FU (nI S.2.1.1) 1 N) Q) → Ok (fX10_week M1) Q := by
    intro M1 Q h1 hgo
    rw [e_X10_week]
    simp only [lt_v]
    refine ok_call (r_begins (L := S.2.1.1) (most := 60) (f := S.2.1.2) (txR_fr h1.2.1 (rdS (by omega)) (row_n (by omega))) (by omega)) (fun q g => ?_)
    obtain ⟨g1, g2, g3, g4, g5⟩ := g
    rw [g1]
    refine hgo _ (frR_trans (frR_trans (frR_sI (by omega) (by omega)) (frR_sub g5 (fun a _ h => h.elim) (fun i h => by omega))) (frR_sI (by omega) (by omega))) (by rw [rdS (by omega)]; exact g3) ⟨atR_fr g2 (rdS (by omega)) (rdS (by omega)) (row_n (by omega)), rdE rfl rfl, fun i hi => absurd hi (Nat.not_lt_zero _), frR_rfl⟩
  have frs : ∀ M1 N s : Mem, FrR (fun _ => False) (fun i => i = 0 ∨ i = 8 ∨ i = 9 ∨ i = 10 ∨ i = 11 ∨ i = 34) M1 N → FrR (fun a => a = 186 ∨ a = 187 ∨ a = 188) (fun i => i = 9 ∨ i = 34) N s → FrR (fun a => a = 186 ∨ a = 187 ∨ a = 188) (fun i => i = 0 ∨ i = 8 ∨ i = 9 ∨ i = 10 ∨ i = 11 ∨ i = 34) M1 s := fun M1 N s a b => frR_trans (frR_sub a (fun _ _ h => h.elim) (fun i h => h)) (frR_sub b (fun _ _ h => h) (fun i h => by omega))
  by_cases hA : S.2.1.1 ≤ wP S.2.1.2 K
  · obtain ⟨j, v', _, j2, w2, hC, hD⟩ := wk_run (R := M.2.2 1 17) (n := S.1.1) (F := S.1.2.2) hR hL hK hall hA K 0 S.1.2.1 (by omega) hS.1
    obtain ⟨ps, hps⟩ : ∃ ps, ps = if j = 0 then S.2.2.2.1 else pushU S.2.2.2.1.1 S.2.2.2.1.2 S.1.2.1 := ⟨_, rfl⟩
    refine st_gen (S := S) (S' := rowS (wkS S ps v') (some [if j = K then 0 else 1, (v'.1 20).toInt64])) (x := nI j) (ok_rowS (spOK_wkS hS w2 hps) (fun l' e => by cases e; simp)) hr ?_ (fun M1 h1 => ?_)
    · show Ok (fX9_week M) _
      rw [e_X9_week, cw.1 hA, bd_v]
      simp (disch := omega) only [↓reduceIte, ic_t, ic_f, not_true_eq_false, not_false_eq_true, ↓lt_v, rdR, rdE, rdS, leT, leTc, leTd, leF, leFc, leFd, ltT, ltTc, ltTd, ltF, ltFc, ltFd, eqT, eqTc, eqTd, eqF, eqFc, eqFd, m1T, m1F, m1T', m1F', inb_nI, ix_nI, inb_c, ix_c, nI_1, nI_pred, nI_m1, add_nIc, add_cnI, bd_v, reduceCtorEq, eqFcc, m1e0, m1e1, m1l0, m1g0, m2l0, m2g0, Int32.reduceLT, Int32.reduceLE, Int32.reduceAdd, Int32.reduceSub, Int32.reduceMul, eq_self, Bool.false_eq_true]
      refine ok_call (c_copy (r := 11) (r2 := 6) hn (by omega) hc.1.2.1) (fun M1 g => ?_)
      obtain ⟨g1, g2⟩ := g
      refine hC M1 FU _ (by omega) (rivC_fr hc.1.2.1 (fun a _ _ => g2.1 a (by omega))) (txC_fr hc.2.2.1 (g2.1 2 (by omega)) (g2.1 3 (by omega))) (by rw [g2.2]) (ruC_fr hc.1.2.2.1 (g2.1 _ (by omega)) (g2.1 _ (by omega))) (fun M2 m1 m2 => ?_)
      refine ok_mono (c_wkfin (by omega) hc w2 g1 (fr_sub g2 (fun a ha => by omega)) m1 m2 hps) (fun q k => ⟨k.1, ?_, k.2.2⟩)
      have := k.2.1
      by_cases e : j = K
      · rw [if_pos e] at this ⊢
        rw [if_pos rfl] at this
        exact this
      · rw [if_neg e] at this ⊢
        rw [if_neg (by decide)] at this
        exact this
    · show Ok (fX10_week M1) _
      refine rb M1 _ h1 (fun N n1 n2 n3 => ?_)
      refine r_week19 hL hK hall hend (fun _ s hs => ?_) (fun e s q => absurd hA (by omega)) K 0 FU N (by omega) (by omega) n3
      obtain ⟨t1, t2, t3, t4⟩ := hs
      have fr := frs M1 N s n1 t4
      have s28 : s.1 169 28 = nI S.2.2.2.1.1 := by rw [fr.2.1 28 (by omega)]; exact h1.2.2.2.1.1
      refine ok_call (r_putsBy (P := S.2.2.2.1.1) hS.2.2.1 s28) (fun M2 g => ?_)
      obtain ⟨g1, g2, g3⟩ := g
      refine hD M2 FU _ (by omega) (by rw [g3.2.1 3 (fun q => q), fr.2.1 3 (by omega)]; exact h1.1.2.1) (fun i hi => by rw [g3.1 171 (by omega) (by omega), fr.1 171 (by omega) (by omega)]; exact h1.1.2.2.1 i hi) (ruR_fr h1.1.2.2.2 (by rw [g3.1 175 (by omega) (by omega), fr.1 175 (by omega) (by omega)]) (by rw [g3.2.1 16 (fun q => q), fr.2.1 16 (by omega)])) (by rw [g3.2.1 34 (fun q => q)]; exact t2) (fun i hi => ?_) (fun s2 m1 m2 => ?_)
      · rw [g3.1 186 (by omega) (by omega), g3.1 187 (by omega) (by omega), g3.1 188 (by omega) (by omega)]
        exact t3 i hi
      · exact r_wkfin hS j2 hK h1 w2 fr (by rw [t4.2.1 8 (by omega)]; exact n2) t2 g1 g2 g3 m1 m2 hps
  · obtain ⟨hlt, e, he⟩ := hend.resolve_left hA
    have he2 := wE_le he
    refine st_gen (S := S) (S' := emS S) (x := -1 - nI e) (spOK_emS hS) hr ?_ (fun M1 h1 => ?_)
    · show Ok (fX9_week M) _
      rw [e_X9_week, cw.2 e hlt he, bd_v]
      simp (disch := omega) only [↓reduceIte, ic_t, ic_f, not_true_eq_false, not_false_eq_true, ↓lt_v, rdR, rdE, rdS, leT, leTc, leTd, leF, leFc, leFd, ltT, ltTc, ltTd, ltF, ltFc, ltFd, eqT, eqTc, eqTd, eqF, eqFc, eqFd, m1T, m1F, m1T', m1F', inb_nI, ix_nI, inb_c, ix_c, nI_1, nI_pred, nI_m1, add_nIc, add_cnI, bd_v, reduceCtorEq, eqFcc, m1e0, m1e1, m1l0, m1g0, m2l0, m2g0, Int32.reduceLT, Int32.reduceLE, Int32.reduceAdd, Int32.reduceSub, Int32.reduceMul, eq_self, Bool.false_eq_true]
      exact ok_some ⟨rfl, crel_empty hc, fun a ha => ⟨row_n (by omega), rfl⟩⟩
    · show Ok (fX10_week M1) _
      refine rb M1 _ h1 (fun N n1 n2 n3 => ?_)
      refine r_week19 hL hK hall hend (fun q => absurd q hA) (fun e' s q he' t4 => ?_) K 0 FU N (by omega) (by omega) n3
      rw [he] at he'
      injection he' with he'
      have fr := frs M1 N s n1 t4
      obtain ⟨h1, h2, h3, h4, h5, h6⟩ := h1
      refine ⟨by rw [he'], ⟨⟨h1.1, by rw [fr.2.1 3 (by omega)]; exact h1.2.1, fun i hi => by rw [fr.1 171 (by omega) (by omega)]; exact h1.2.2.1 i hi, ruR_fr h1.2.2.2 (fr.1 175 (by omega) (by omega)) (fr.2.1 16 (by omega))⟩, ⟨Nat.zero_le _, by rw [t4.2.1 8 (by omega)]; exact n2, fun i hi => absurd hi (Nat.not_lt_zero _)⟩, rwR_fr h3 (fr.2.1 1 (by omega)) (by rw [fr.2.2]), psR_fr h4 (fr.2.1 28 (by omega)) (fr.1 185 (by omega) (by omega)), kpR_fr h5 (fr.2.1 4 (by omega)) (fun a ha => fr.1 a (by omega) (by omega)), hR_fr h6 (fr.2.1 45 (by omega)) (fun a ha => fr.1 a (by omega) (by omega))⟩, fun a ha => ⟨fr.1 a (by omega) (by omega), by rw [fr.2.2]⟩, by rw [fr.2.2]⟩
