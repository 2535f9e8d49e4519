/-! PURE: chart -/
theorem kc_of {P : Nat → Prop} {M M' : Mem} (h : Fr P M M') (hp : ∀ a, P a → SC a) : KC M M' := ⟨fun a h1 _ => h.1 a (fun q => h1 (hp a q)), fun a _ => by rw [h.2], by rw [h.2]⟩
theorem crel_frS {S : SP} {P : Nat → Prop} {M M' : Mem} (hc : CRel S M) (h : Fr P M M') (hp : ∀ a, P a → SC a) : CRel S M' := crel_q (l := none) hc (kc_of h hp) ⟨h.1 4 (fun q => by have := hp 4 q; unfold SC at this; omega), by rw [h.2]⟩
theorem kr_of {P T : Nat → Prop} {M M' : Mem} (h : FrR P T M M') (hp : ∀ a, P a → SR a) (ht : ∀ i, T i → SS i) : KR M M' := ⟨fun a a1 a2 => h.1 a a1 (fun q => a2 (hp a q)), fun i hi => h.2.1 i (fun q => hi (ht i q)), fun a _ => by rw [h.2.2], by rw [h.2.2]⟩
theorem rrel_frS {S : SP} {P T : Nat → Prop} {M M' : Mem} (hr : RRel S M) (h : FrR P T M M') (hp : ∀ a, P a → SR a) (ht : ∀ i, T i → SS1 i) : RRel S M' := rrel_q (l := none) hr (kr_of h hp (fun i q => (ht i q).1)) ⟨h.2.1 1 (fun q => (ht 1 q).2 rfl), by rw [h.2.2]⟩
theorem rfr_of {P T : Nat → Prop} {M M' : Mem} (h : FrR P T M M') (hp : ∀ a, P a → 169 < a) : RFr M M' := ⟨fun a ha => ⟨h.1 a (by omega) (fun q => by have := hp a q; omega), by rw [h.2.2]⟩, by rw [h.2.2]⟩
theorem st_chart {M : Mem} (h : Rel M) : StI (fun M => fX9_chart M) (fun M => fX10_chart M) M := by
  obtain ⟨S, hS, hc, hr⟩ := h
  have hn : S.1.1 ≤ 6 := hS.1.1
  have hL := hc.2.2.1.1
  obtain ⟨J, pos, ok, h1, h2, h3, h4⟩ := ch_parse (L := S.2.1.1) (n := S.1.1) (f := S.2.1.2) hn hL S.2.1.1 0 0 (by rw [Nat.zero_mul]) (Nat.zero_le _) (by omega)
  have hFU : 2000 < FU := FU_big
  have c1 := h3 M FU (by omega) hc.2.2.1 hc.1.2.1.1
  cases ok
  · refine st_gen (S' := emS S) (x := -1 - nI pos) (spOK_emS hS) hr ?_ (fun M1 r1 => ?_)
    · show Ok (fX9_chart M) _
      rw [e_X9_chart, e_X9_chartFault]
      refine ok_call c1 (fun q g => ?_)
      obtain ⟨g1, g2⟩ := g
      rw [if_neg (by decide)] at g1
      rw [g1]
      simp (disch := omega) only [↓reduceIte, ic_t, ic_f, not_true_eq_false, not_false_eq_true, ↓lt_v, rdR, rdE, rdS, leT, leTc, leTd, leF, leFc, leFd, ltT, ltTc, ltTd, ltF, ltFc, ltFd, eqT, eqTc, eqTd, eqF, eqFc, eqFd, m1T, m1F, m1T', m1F', inb_nI, ix_nI, inb_c, ix_c, nI_1, nI_pred, nI_m1, add_nIc, add_cnI, bd_v, reduceCtorEq, eqFcc, m1e0, m1e1, m1l0, m1g0, m2l0, m2g0, Int32.reduceLT, Int32.reduceLE, Int32.reduceAdd, Int32.reduceSub, Int32.reduceMul, eq_self, Bool.false_eq_true]
      refine ok_some ⟨rfl, crel_empty (crel_frS hc g2 (fun a ha => by unfold SC; omega)), fun a ha => ⟨by rw [row_n (by omega), g2.1 a (by omega)], by show q.2.2.1 a = _; rw [g2.2]⟩⟩
    · show Ok (fX10_chart M1) _
      rw [e_X10_chart, lt_v]
      refine ok_call (r_beg r1) (fun q g => ?_)
      obtain ⟨g1, g2, g3, g4⟩ := g
      refine h4 q.2 FU _ (by omega) g2 g3.1.2.1 (fun i hi => absurd hi (Nat.not_lt_zero _)) (fun _ s' m => ok_some ⟨rfl, rrel_frS g3 m (fun a ha => by unfold PCh at ha; unfold SR; omega) (fun i hi => by unfold SCh at hi; unfold SS1 SS; omega), rfr_tr g4 (rfr_of m (fun a ha => by unfold PCh at ha; omega))⟩) (fun e => by cases e)
  · obtain ⟨j1, j2, j3⟩ := h1 rfl
    have hw := hS.1
    obtain ⟨G, pr, G1, G2, G3, hC, hR⟩ := ch_run (L := S.2.1.1) (J := J) (f := S.2.1.2) hn hL j3 (fun i hi a ha => j2 i (Nat.zero_le _) hi a ha) J 0 S.1.2.1.2 0 (by omega) (wf_prm hw) (by omega)
    have hJ81 : J ≤ 81 := by
      have : J ≤ J * (S.1.1 + 1) := Nat.le_mul_of_pos_right J (by omega)
      omega
    refine st_gen (S' := rowS (emS S) (some [(if G = J then 1 else 0 : Int64), (nI pr).toInt64])) (x := nI G) (ok_rowS (spOK_emS hS) (fun l' e => by cases e; simp)) hr ?_ (fun M1 r1 => ?_)
    · show Ok (fX9_chart M) _
      rw [e_X9_chart, e_X9_chartFault]
      refine ok_call c1 (fun q g => ?_)
      obtain ⟨g1, g2⟩ := g
      rw [if_pos rfl] at g1
      rw [g1]
      simp (disch := omega) only [↓reduceIte, ic_t, ic_f, not_true_eq_false, not_false_eq_true, ↓lt_v, rdR, rdE, rdS, leT, leTc, leTd, leF, leFc, leFd, ltT, ltTc, ltTd, ltF, ltFc, ltFd, eqT, eqTc, eqTd, eqF, eqFc, eqFd, m1T, m1F, m1T', m1F', inb_nI, ix_nI, inb_c, ix_c, nI_1, nI_pred, nI_m1, add_nIc, add_cnI, bd_v, reduceCtorEq, eqFcc, m1e0, m1e1, m1l0, m1g0, m2l0, m2g0, Int32.reduceLT, Int32.reduceLE, Int32.reduceAdd, Int32.reduceSub, Int32.reduceMul, eq_self, Bool.false_eq_true]
      have hq := crel_frS hc g2 (fun a ha => by unfold SC; omega)
      refine c_trial hq.1 (fun M2 t1 t2 t3 t4 => ?_)
      have hq2 : CRel S M2 := crel_frS hq t4 (fun a ha => ha)
      have := hC M2 FU
      rw [Nat.zero_mul] at this
      refine this _ (by omega) hq2.2.2.1 hq2.1.2.1.1 t1.1 (fun k hk => ?_) (fun M3 m => ?_)
      · have e1 := t1.2.2.2.1 (S.1.2.1.2 k) (hw.2.1 k hk).1
        rw [(hw.2.1 k hk).2] at e1
        exact e1
      · have hq3 : CRel S M3 := crel_frS hq2 m (fun a ha => by unfold PCC at ha; unfold SC; omega)
        have hq4 := crel_empty hq3
        have cf : CFr M (sI M3 2 1 0) := fun a ha => ⟨by rw [row_n (by omega), m.1 a (by unfold PCC; omega), t4.1 a (by unfold SC; omega), g2.1 a (by omega)], by show M3.2.1 a = _; rw [m.2, t4.2, g2.2]⟩
        rw [e_X9_chart_141]
        have fin : ∀ z : Int64, z = (if G = J then 1 else 0) → Ok (fX9_chart_163 (nI G) (nI pr) z (sI M3 2 1 0)) (fun q => q.1 = nI G ∧ CRel (rowS (emS S) (some [(if G = J then 1 else 0 : Int64), (nI pr).toInt64])) q.2 ∧ CFr M q.2) := by
          intro z hz
          rw [e_X9_chart_163, hz]
          exact ok_call (c_tellB (M := sI M3 2 1 0) ⟨fun _ _ _ => rfl, fun _ _ => rfl, rfl⟩) (fun M5 t => ok_some ⟨rfl, crel_q hq4 t.1 t.2.1, cfr_tr cf (kc_cfr t.1)⟩)
        by_cases c : G = J
        · have := fin 1 (by rw [if_pos c])
          rw [if_pos c]
          simp (disch := omega) only [↓reduceIte, ic_t, ic_f, not_true_eq_false, not_false_eq_true, ↓lt_v, rdR, rdE, rdS, leT, leTc, leTd, leF, leFc, leFd, ltT, ltTc, ltTd, ltF, ltFc, ltFd, eqT, eqTc, eqTd, eqF, eqFc, eqFd, m1T, m1F, m1T', m1F', inb_nI, ix_nI, inb_c, ix_c, nI_1, nI_pred, nI_m1, add_nIc, add_cnI, bd_v, reduceCtorEq, eqFcc, m1e0, m1e1, m1l0, m1g0, m2l0, m2g0, Int32.reduceLT, Int32.reduceLE, Int32.reduceAdd, Int32.reduceSub, Int32.reduceMul, eq_self, Bool.false_eq_true]
          exact this
        · have := fin 0 (by rw [if_neg c])
          rw [if_neg c]
          simp (disch := omega) only [↓reduceIte, ic_t, ic_f, not_true_eq_false, not_false_eq_true, ↓lt_v, rdR, rdE, rdS, leT, leTc, leTd, leF, leFc, leFd, ltT, ltTc, ltTd, ltF, ltFc, ltFd, eqT, eqTc, eqTd, eqF, eqFc, eqFd, m1T, m1F, m1T', m1F', inb_nI, ix_nI, inb_c, ix_c, nI_1, nI_pred, nI_m1, add_nIc, add_cnI, bd_v, reduceCtorEq, eqFcc, m1e0, m1e1, m1l0, m1g0, m2l0, m2g0, Int32.reduceLT, Int32.reduceLE, Int32.reduceAdd, Int32.reduceSub, Int32.reduceMul, eq_self, Bool.false_eq_true]
          exact this
    · show Ok (fX10_chart M1) _
      rw [e_X10_chart, lt_v]
      refine ok_call (r_beg r1) (fun q g => ?_)
      obtain ⟨g1, g2, g3, g4⟩ := g
      refine h4 q.2 FU _ (by omega) g2 g3.1.2.1 (fun i hi => absurd hi (Nat.not_lt_zero _)) (fun e => by cases e) (fun _ s' m1 m2 => ?_)
      have r2 : RRel (emS S) s' := rrel_frS g3 m2 (fun a ha => by unfold PCh at ha; unfold SR; omega) (fun i hi => by unfold SCh at hi; unfold SS1 SS; omega)
      have x3 : s'.1 169 3 = nI S.1.1 := r2.1.2.1
      refine ok_call (r_laysStanding hw ln171 (by rw [ln189]; omega) (by rw [ln189]; omega) (by omega) (by omega) x3 r2.1.2.2.1) (fun s2 k => ?_)
      obtain ⟨k1, k2⟩ := k
      refine hR s2 FU 0 _ (by omega) (by omega) (by rw [k2.2.1 3 (fun q => q)]; exact x3) k1 (fun i hi k hk => by rw [k2.1 196 (by omega) (by omega)]; exact m1 i hi k hk) (fun s3 m => ?_)
      have r3 : RRel (emS S) s3 := rrel_frS (rrel_frS r2 k2 (fun a ha => by unfold SR; omega) (fun i hi => hi.elim)) m (fun a ha => by unfold PCR at ha; unfold SR; omega) (fun i hi => hi.elim)
      have rf : RFr M1 s3 := rfr_tr g4 (rfr_tr (rfr_of m2 (fun a ha => by unfold PCh at ha; omega)) (rfr_tr (rfr_of k2 (fun a ha => by omega)) (rfr_of m (fun a ha => by unfold PCR at ha; omega))))
      have f0 : ∀ N : Mem, fX10_flag 0 N = some (0, N) := fun N => r_flagI (Or.inl rfl)
      have f1 : ∀ N : Mem, fX10_flag 1 N = some (1, N) := fun N => r_flagI (Or.inr rfl)
      have fin : ∀ z : Int64, z = (if G = J then 1 else 0) → Ok ((fX10_enters z (sI s3 169 1 0)).bind fun q40 => (fX10_enters (nI pr).toInt64 q40).bind fun q42 => some (nI G, q42)) (fun q => q.1 = nI G ∧ RRel (rowS (emS S) (some [(if G = J then 1 else 0 : Int64), (nI pr).toInt64])) q.2 ∧ RFr M1 q.2) := by
        intro z hz
        obtain ⟨z1, z2⟩ := r_zero (kr_rfl (M := s3))
        refine ok_call (r_enters (l := []) (by simp) z1 z2) (fun M4 t => ?_)
        refine ok_call (r_enters (l := [z]) (by simp) t.1 t.2.1) (fun M5 u => ok_some ⟨rfl, ?_, rfr_tr rf (kr_rfr u.1)⟩)
        rw [← hz]
        exact rrel_q r3 u.1 u.2.1
      rw [e_X10_chart_248]
      by_cases c : G = J
      · have := fin 1 (by rw [if_pos c])
        simp (disch := omega) only [↓reduceIte, ic_t, ic_f, not_true_eq_false, not_false_eq_true, ↓lt_v, rdR, rdE, rdS, leT, leTc, leTd, leF, leFc, leFd, ltT, ltTc, ltTd, ltF, ltFc, ltFd, eqT, eqTc, eqTd, eqF, eqFc, eqFd, m1T, m1F, m1T', m1F', inb_nI, ix_nI, inb_c, ix_c, nI_1, nI_pred, nI_m1, add_nIc, add_cnI, bd_v, reduceCtorEq, eqFcc, m1e0, m1e1, m1l0, m1g0, m2l0, m2g0, Int32.reduceLT, Int32.reduceLE, Int32.reduceAdd, Int32.reduceSub, Int32.reduceMul, eq_self, Bool.false_eq_true, e_X10_chart_264, f1]
        exact this
      · have := fin 0 (by rw [if_neg c])
        simp (disch := omega) only [↓reduceIte, ic_t, ic_f, not_true_eq_false, not_false_eq_true, ↓lt_v, rdR, rdE, rdS, leT, leTc, leTd, leF, leFc, leFd, ltT, ltTc, ltTd, ltF, ltFc, ltFd, eqT, eqTc, eqTd, eqF, eqFc, eqFd, m1T, m1F, m1T', m1F', inb_nI, ix_nI, inb_c, ix_c, nI_1, nI_pred, nI_m1, add_nIc, add_cnI, bd_v, reduceCtorEq, eqFcc, m1e0, m1e1, m1l0, m1g0, m2l0, m2g0, Int32.reduceLT, Int32.reduceLE, Int32.reduceAdd, Int32.reduceSub, Int32.reduceMul, eq_self, Bool.false_eq_true, e_X10_chart_264, f0]
        exact this
