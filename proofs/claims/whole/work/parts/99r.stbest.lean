/-! PURE: best -/
theorem jb_ext {n L mo al i : Nat} {C : Nat → Nat} (h : Jb n C L mo al) (hi : i < n) (hc : 0 < C i) : Ext n C L (mo - 1) ∧ al = C L ∧ mo ≠ 0 := by
  obtain ⟨h1, h2, h3, h4, h5⟩ := h
  have hmo : mo ≠ 0 := fun q => by have := h4 i (by omega) hi; omega
  rcases h2 with ⟨a, b, c⟩ | ⟨a, b, c, d⟩
  · exact ⟨⟨a, b, fun j hj => h1 j (by omega) hj, by omega, h5 hmo, fun j hj hjn => h4 j (by omega) hjn⟩, c, hmo⟩
  · have := d i hi; omega
theorem pc_pos {n d pl : Nat} (hn : n ≤ 6) (hp : pl < n) : 0 < pc n d pl (fac n) pl := by
  have h0 : pc n d pl 1 pl = 1 := by
    show 0 + (if dayN n 0 ≤ d ∧ un n 0 pl = pl then 1 else 0) = 1
    rw [if_pos ⟨by rw [(day0 hn).1]; omega, (rn_0 hn).1 pl hp⟩]
  have mono : ∀ m, 1 ≤ m → 1 ≤ pc n d pl m pl := by
    intro m
    induction m with
    | zero => intro q; omega
    | succ m ih =>
      intro _
      by_cases c : m = 0
      · subst c; rw [h0]; exact Nat.le_refl _
      · have := ih (by omega)
        rw [pc_succ]
        omega
  exact mono _ (fac_pos n)
theorem r_best {M : Mem} {n d b L mo : Nat} {v : VV} {F : (Nat → Int32) → Int32} (hc : RR n v F M) (hb : b < n) (hd : d ≤ 6) (hE : Ext n (pc n d (plv v b) (fac n)) L mo) : Ok (fX10_best (nI b) (nI d) M) (QR (nI L) (some [(nI mo).toInt64, (nI (pc n d (plv v b) (fac n) L)).toInt64]) M) := by
  have hn : n ≤ 6 := hc.1.1
  have hfl := fac_le hn
  have hw := hc.1
  have hop := wf_prm hw
  obtain ⟨hc0, hf0⟩ := r_thrown0 hc
  have hh := r_isBoat_in hc0.2.1 hn hb
  have hi : ∀ M : Mem, fX10_in (nI d).toInt64 0 6 M = some (1, M) := fun M => by rw [r_inI (lo := 0) (hi := 6) (by decide) (by decide), nI_toInt (by omega), if_pos (by omega)]
  rw [e_X10_best]
  simp (disch := omega) only [↓reduceIte, ic_t, ic_f, not_true_eq_false, not_false_eq_true, ↓lt_v, rdR, rdE, rdS, leT, leTc, leTd, leF, leFc, leFd, ltT, ltTc, ltTd, ltF, ltFc, ltFd, eqT, eqTc, eqTd, eqF, eqFc, eqFd, m1T, m1F, m1T', m1F', inb_nI, ix_nI, inb_c, ix_c, nI_1, nI_pred, nI_m1, add_nIc, add_cnI, bd_v, reduceCtorEq, eqFcc, m1e0, m1e1, m1l0, m1g0, m2l0, m2g0, Int32.reduceLT, Int32.reduceLE, Int32.reduceAdd, Int32.reduceSub, Int32.reduceMul, eq_self, Bool.false_eq_true, hh, hi]
  refine ok_call (r_laysSoon hw hc0.2.1 hc0.2.2.1) (fun s g => ?_)
  obtain ⟨g1, g2⟩ := g
  obtain ⟨gi, q1, q2, q3⟩ := rn_inv hw g1
  have h3 : s.1 169 3 = nI n := by rw [g2.2.1 3 (by unfold S40; omega)]; exact hc0.2.1
  have kr0 : FrR SR SS1 M s := frR_trans hf0 (frR_sub g2 (fun b _ hb => by unfold PSn at hb; unfold SR; omega) (fun i hi => by unfold S40 at hi; unfold SS1 SS; omega))
  have eH : ∀ i, i < n → pc n d (plv v b) (fac n) i = cR (fun m k => decide (un n m k = b) && decide (dayN n (gi m) ≤ d)) (fac n) i := by
    intro i hi
    unfold cR pc
    rw [← sm_prm (rn_prm hn hop) (f := fun j => if (decide (un n j i = b) && decide (dayN n (gi j) ≤ d)) = true then 1 else 0)]
    refine sm_congr _ (fun t ht => ?_)
    rw [q2 t ht]
    have hu := un_lh hn (prm_comp hop (chk1_n hn ht).1) i hi
    have hu : un n (RN n v.2 t) i = v.2 (un n t i) := hu
    rw [hu]
    have hti := (chk1_n hn ht).1.1 i hi
    have hb3 := wf_plv hw hb
    have iff1 : v.2 (un n t i) = b ↔ un n t i = plv v b := ⟨fun e => hop.2 _ _ hti hb3.1 (by rw [e, hb3.2.2]), fun e => by rw [e]; exact hb3.2.2⟩
    by_cases c1 : dayN n t ≤ d
    · by_cases c2 : un n t i = plv v b
      · rw [if_pos ⟨c1, c2⟩, decide_eq_true (iff1.2 c2), decide_eq_true c1]; rfl
      · rw [if_neg (fun q => c2 q.2), decide_eq_false (fun q => c2 (iff1.1 q))]; rfl
    · rw [if_neg (fun q => c1 q.1), decide_eq_false c1, Bool.and_false]; rfl
  generalize hH : (fun m k => decide (un n m k = b) && decide (dayN n (gi m) ≤ d)) = H at eH
  have hH : ∀ m k, H m k = (decide (un n m k = b) && decide (dayN n (gi m) ≤ d)) := fun m k => by rw [← hH]
  have hFU : 2000 < FU := FU_big
  generalize FU = fu0 at hFU ⊢
  refine ok_loop (fac n) (fun fu m (y : (Int32 × Int32 × Int32) × Mem) => fX10_best_43 fu (nI b) (nI d) y.1.1 y.1.2.1 y.1.2.2 (nI m) y.2) (fun m y => ∃ L mo al, y.1 = (nI L, nI mo - 1, nI al) ∧ al ≤ m + 1 ∧ Jb n (cR H m) L mo al ∧ FrR (fun a => a = 189) (fun _ => False) s y.2) ?_ ?_ fu0 0 ((6, -1, 0), s) (by omega) (by omega) ⟨6, 0, 0, rfl, by omega, ⟨fun i _ _ => rfl, Or.inr ⟨rfl, rfl, rfl, fun i _ => rfl⟩, Nat.zero_le _, fun i _ _ => rfl, fun q => absurd rfl q⟩, frR_rfl⟩
  · intro fu m y hm hy ih
    obtain ⟨L0, mo0, al0, e1, e2, e3, e4⟩ := hy
    have t3 : y.2.1 169 3 = nI n := by rw [e4.2.1 3 (fun q => q)]; exact h3
    have hmn := r_many (s := y.2) n 11 (by omega) hn
    rw [e_X10_best_43, e1]
    simp (disch := omega) only [↓reduceIte, ic_t, ic_f, not_true_eq_false, not_false_eq_true, ↓lt_v, rdR, rdE, rdS, leT, leTc, leTd, leF, leFc, leFd, ltT, ltTc, ltTd, ltF, ltFc, ltFd, eqT, eqTc, eqTd, eqF, eqFc, eqFd, m1T, m1F, m1T', m1F', inb_nI, ix_nI, inb_c, ix_c, nI_1, nI_pred, nI_m1, add_nIc, add_cnI, bd_v, reduceCtorEq, eqFcc, m1e0, m1e1, m1l0, m1g0, m2l0, m2g0, Int32.reduceLT, Int32.reduceLE, Int32.reduceAdd, Int32.reduceSub, Int32.reduceMul, eq_self, Bool.false_eq_true, t3, hmn]
    refine ok_call (r_laysOrder (a := 189) hn hm ln189 (by omega) t3) (fun M5 w => ?_)
    obtain ⟨w1, w2⟩ := w
    have u3 : M5.1 169 3 = nI n := by rw [w2.2.1 3 (fun q => q)]; exact t3
    have us : M5.1 194 m = nI (dayN n (gi m)) := by rw [w2.1 194 (by omega) (by omega), e4.1 194 (by omega) (by omega)]; exact q3 m hm
    obtain ⟨L', mo', al', j1, j2⟩ := r_best68 (k43 := fX10_best_43 fu) (o := un n m) (H := H) hn hb hd (by omega) dayN_lt u3 (fun k hk => ⟨w1 k hk, (chk1_n hn hm).1.1 k hk⟩) us (fun k hk => hH m k) n 0 FU L0 mo0 al0 (by omega) (by have := FU_big; omega) e2 (jb_congr e3 (fun i hi => by rw [if_neg (by omega)]; rfl))
    have j2 : fX10_best_68 (fX10_best_43 fu) FU (nI b) (nI d) (nI L0) (nI mo0 - 1) (nI al0) (nI m) 0 M5 = _ := j2
    rw [j2]
    refine ih ((nI L', nI mo' - 1, nI al'), M5) ⟨L', mo', al', rfl, ?_, j1, frR_trans e4 w2⟩
    rcases j1.2.1 with ⟨a, a2, a3⟩ | ⟨a, a2, _⟩
    · rw [a3]
      have hle : cR H (m + 1) L' ≤ m + 1 := sm_01 (P := fun j => H j L' = true) (m + 1)
      omega
    · omega
  · intro fu y hy
    obtain ⟨L0, mo0, al0, e1, e2, e3, e4⟩ := hy
    have t3 : y.2.1 169 3 = nI n := by rw [e4.2.1 3 (fun q => q)]; exact h3
    have hmn := r_many (s := y.2) n 11 (by omega) hn
    have e3 := jb_congr e3 eH
    obtain ⟨x1, x2, x3⟩ := jb_ext e3 hE.1 hE.2.1
    obtain ⟨y1, y2⟩ := ext_u x1 hE
    subst y1
    obtain ⟨mo1, rfl⟩ : ∃ k, mo0 = k + 1 := ⟨mo0 - 1, by omega⟩
    have y2 : mo1 = mo := y2
    subst y2
    rw [e_X10_best_43, e1, x2]
    simp (disch := omega) only [↓reduceIte, ic_t, ic_f, not_true_eq_false, not_false_eq_true, ↓lt_v, rdR, rdE, rdS, leT, leTc, leTd, leF, leFc, leFd, ltT, ltTc, ltTd, ltF, ltFc, ltFd, eqT, eqTc, eqTd, eqF, eqFc, eqFd, m1T, m1F, m1T', m1F', inb_nI, ix_nI, inb_c, ix_c, nI_1, nI_pred, nI_m1, add_nIc, add_cnI, bd_v, reduceCtorEq, eqFcc, m1e0, m1e1, m1l0, m1g0, m2l0, m2g0, Int32.reduceLT, Int32.reduceLE, Int32.reduceAdd, Int32.reduceSub, Int32.reduceMul, eq_self, Bool.false_eq_true, t3, hmn]
    have kr : KR M y.2 := kr_1 (frR_trans kr0 (frR_sub e4 (fun a _ ha => by unfold SR; omega) (fun i hi => hi.elim)))
    obtain ⟨z1, z2⟩ := r_zero kr
    refine ok_call (r_enters (l := []) (by simp) z1 z2) (fun M4 t => ?_)
    exact ok_call (r_enters (l := [(nI mo1).toInt64]) (by simp) t.1 t.2.1) (fun M5 u => ok_some ⟨rfl, u.1, u.2.1⟩)
theorem ext_ex {n i : Nat} {C : Nat → Nat} : i < n → 0 < C i → ∃ L mo, Ext n C L mo := by
  intro hi hc
  have hL : ∀ m, (∃ i, i < m ∧ 0 < C i) → ∃ L, L < m ∧ 0 < C L ∧ ∀ i, i < L → C i = 0 := by
    intro m
    induction m with
    | zero => intro ⟨i, h, _⟩; omega
    | succ m ih =>
      intro ⟨i, h1, h2⟩
      by_cases c : ∃ i, i < m ∧ 0 < C i
      · obtain ⟨L, a, b, d⟩ := ih c
        exact ⟨L, by omega, b, d⟩
      · refine ⟨m, by omega, ?_, fun j hj => ?_⟩
        · by_cases e : i = m
          · subst e; exact h2
          · exact absurd ⟨i, by omega, h2⟩ c
        · by_cases e : 0 < C j
          · exact absurd ⟨j, hj, e⟩ c
          · omega
  have hM : ∀ m, (∃ i, i < m ∧ 0 < C i) → ∃ mo, mo < m ∧ 0 < C mo ∧ ∀ i, mo < i → i < m → C i = 0 := by
    intro m
    induction m with
    | zero => intro ⟨i, h, _⟩; omega
    | succ m ih =>
      intro ⟨i, h1, h2⟩
      by_cases c : 0 < C m
      · exact ⟨m, by omega, c, fun j a b => by omega⟩
      · by_cases e : i = m
        · subst e; omega
        · obtain ⟨mo, a, b, d⟩ := ih ⟨i, by omega, h2⟩
          refine ⟨mo, by omega, b, fun j j1 j2 => ?_⟩
          by_cases e2 : j = m
          · subst e2; omega
          · exact d j j1 (by omega)
  obtain ⟨L, a, b, c⟩ := hL n ⟨i, hi, hc⟩
  obtain ⟨mo, d, e, f⟩ := hM n ⟨i, hi, hc⟩
  exact ⟨L, mo, a, b, c, d, e, f⟩
theorem st_best {M : Mem} {x y : Int32} (h : Rel M) : StI (fun M => fX9_best x y M) (fun M => fX10_best x y M) M := by
  obtain ⟨S, hS, hc, hr⟩ := h
  have hn : S.1.1 ≤ 6 := hS.1.1
  have hfl := fac_le hn
  rcases in_cases x (n := S.1.1) (by omega) with ⟨b, hb, rfl⟩ | hx
  · rcases range_cases y 0 6 (by omega) (by omega) with ⟨d, _, hd, rfl⟩ | ⟨hy, hy2⟩
    · have hpl := wf_plv hS.1 hb
      obtain ⟨L, mo, hE⟩ := ext_ex (C := pc S.1.1 d (plv S.1.2.1 b) (fac S.1.1)) hpl.1 (pc_pos hn hpl.1)
      refine st_law (x := nI L) (l := some [(nI mo).toInt64, (nI (pc S.1.1 d (plv S.1.2.1 b) (fac S.1.1) L)).toInt64]) hS hr (fun l' e => by cases e; simp) ?_ (fun M1 h1 => r_best h1.1 hb hd hE)
      show Ok (fX9_best (nI b) (nI d) M) _
      have e0 : M.1 6 0 = nI S.1.1 := hc.1.2.1.1
      have hh := has_in hc.1.2.1.1 hn hb
      rw [e_X9_best]
      simp (disch := omega) only [↓reduceIte, ic_t, ic_f, not_true_eq_false, not_false_eq_true, ↓lt_v, rdR, rdE, rdS, leT, leTc, leTd, leF, leFc, leFd, ltT, ltTc, ltTd, ltF, ltFc, ltFd, eqT, eqTc, eqTd, eqF, eqFc, eqFd, m1T, m1F, m1T', m1F', inb_nI, ix_nI, inb_c, ix_c, nI_1, nI_pred, nI_m1, add_nIc, add_cnI, bd_v, reduceCtorEq, eqFcc, m1e0, m1e1, m1l0, m1g0, m2l0, m2g0, Int32.reduceLT, Int32.reduceLE, Int32.reduceAdd, Int32.reduceSub, Int32.reduceMul, eq_self, Bool.false_eq_true, hh, e0]
      refine ok_call (c_prepare hn hc.2.2.2.2.2.2.2) (fun M1 g => ?_)
      obtain ⟨g1, g2⟩ := g
      have e9 : M1.1 9 b = nI (plv S.1.2.1 b) := by rw [g2.1 9 (by unfold PL; omega)]; rw [← hpl.2.1]; exact hc.1.2.1.2.2.2.1 b hb
      rw [e9]
      refine ok_call (c_countPlaces hn hd (by omega) g1) (fun M2 w => ?_)
      obtain ⟨w1, w2⟩ := w
      have f2 : Fr PL M M2 := fr_trans g2 (fr_sub w2 (fun a ha => by unfold PL; omega))
      have t0 : M2.1 6 0 = nI S.1.1 := by rw [f2.1 6 (by unfold PL; omega)]; exact e0
      have la : LawP M2 := lawA_P hn (by
        unfold LawA
        rw [w2.1 115 (by omega), w2.1 137 (by omega)]
        exact g1)
      rw [t0]
      rw [c_best70 (L := L) (mo := mo) (C := pc S.1.1 d (plv S.1.2.1 b) (fac S.1.1)) hn t0 (fun i hi => ⟨w1 i hi, by have := pc_le (n := S.1.1) (d := d) (pl := plv S.1.2.1 b) (m := fac S.1.1) (i := i); omega⟩) hE S.1.1 FU 0 (Nat.le_refl _) (by have := FU_big; omega) (fun q => by have := hE.1; omega)]
      exact ok_call (c_tellB (M := M2) ⟨fun _ _ _ => rfl, fun _ _ => rfl, rfl⟩) (fun M3 t => ok_some ⟨M2, crel_law hc f2 la, fr_cfr f2 (fun a ha => by unfold PL at ha; omega), rfl, t.1, t.2.1⟩)
    · refine st_no (x := -1) hS hc hr ?_ (fun M1 h1 => ?_)
      · have hh := has_in hc.1.2.1.1 hn hb
        show fX9_best (nI b) y M = _
        rw [e_X9_best]
        rcases hy2 with q | q
        · simp (disch := omega) only [↓reduceIte, ic_t, ic_f, not_true_eq_false, not_false_eq_true, ↓lt_v, rdR, rdE, rdS, leT, leTc, leTd, leF, leFc, leFd, ltT, ltTc, ltTd, ltF, ltFc, ltFd, eqT, eqTc, eqTd, eqF, eqFc, eqFd, m1T, m1F, m1T', m1F', inb_nI, ix_nI, inb_c, ix_c, nI_1, nI_pred, nI_m1, add_nIc, add_cnI, bd_v, reduceCtorEq, eqFcc, m1e0, m1e1, m1l0, m1g0, m2l0, m2g0, Int32.reduceLT, Int32.reduceLE, Int32.reduceAdd, Int32.reduceSub, Int32.reduceMul, eq_self, Bool.false_eq_true, hh, eq_true (show y < 0 from q)]
        · by_cases y0 : y < 0
          · simp (disch := omega) only [↓reduceIte, ic_t, ic_f, not_true_eq_false, not_false_eq_true, ↓lt_v, rdR, rdE, rdS, leT, leTc, leTd, leF, leFc, leFd, ltT, ltTc, ltTd, ltF, ltFc, ltFd, eqT, eqTc, eqTd, eqF, eqFc, eqFd, m1T, m1F, m1T', m1F', inb_nI, ix_nI, inb_c, ix_c, nI_1, nI_pred, nI_m1, add_nIc, add_cnI, bd_v, reduceCtorEq, eqFcc, m1e0, m1e1, m1l0, m1g0, m2l0, m2g0, Int32.reduceLT, Int32.reduceLE, Int32.reduceAdd, Int32.reduceSub, Int32.reduceMul, eq_self, Bool.false_eq_true, hh, eq_true y0]
          · simp (disch := omega) only [↓reduceIte, ic_t, ic_f, not_true_eq_false, not_false_eq_true, ↓lt_v, rdR, rdE, rdS, leT, leTc, leTd, leF, leFc, leFd, ltT, ltTc, ltTd, ltF, ltFc, ltFd, eqT, eqTc, eqTd, eqF, eqFc, eqFd, m1T, m1F, m1T', m1F', inb_nI, ix_nI, inb_c, ix_c, nI_1, nI_pred, nI_m1, add_nIc, add_cnI, bd_v, reduceCtorEq, eqFcc, m1e0, m1e1, m1l0, m1g0, m2l0, m2g0, Int32.reduceLT, Int32.reduceLE, Int32.reduceAdd, Int32.reduceSub, Int32.reduceMul, eq_self, Bool.false_eq_true, hh, eq_false y0, gt_nle (show (6 : Int32) < y from q)]
      · obtain ⟨hc0, hf0⟩ := r_thrown0 h1.1
        have hh := r_isBoat_in hc0.2.1 hn hb
        have hin : fX10_in y.toInt64 0 6 (sI M1 169 0 0) = some (0, sI M1 169 0 0) := in_no (lo := 0) (hi := 6) (by decide) (by decide) hy
        show fX10_best (nI b) y M1 = _
        rw [e_X10_best]
        simp (disch := omega) only [↓reduceIte, ic_t, ic_f, not_true_eq_false, not_false_eq_true, ↓lt_v, rdR, rdE, rdS, leT, leTc, leTd, leF, leFc, leFd, ltT, ltTc, ltTd, ltF, ltFc, ltFd, eqT, eqTc, eqTd, eqF, eqFc, eqFd, m1T, m1F, m1T', m1F', inb_nI, ix_nI, inb_c, ix_c, nI_1, nI_pred, nI_m1, add_nIc, add_cnI, bd_v, reduceCtorEq, eqFcc, m1e0, m1e1, m1l0, m1g0, m2l0, m2g0, Int32.reduceLT, Int32.reduceLE, Int32.reduceAdd, Int32.reduceSub, Int32.reduceMul, eq_self, Bool.false_eq_true, hh, hin]
  · refine st_no (x := -1) hS hc hr ?_ (fun M1 h1 => ?_)
    · have hh := has_out hc.1.2.1.1 hx
      show fX9_best x y M = _
      rw [e_X9_best]
      simp (disch := omega) only [↓reduceIte, ic_t, ic_f, not_true_eq_false, not_false_eq_true, ↓lt_v, rdR, rdE, rdS, leT, leTc, leTd, leF, leFc, leFd, ltT, ltTc, ltTd, ltF, ltFc, ltFd, eqT, eqTc, eqTd, eqF, eqFc, eqFd, m1T, m1F, m1T', m1F', inb_nI, ix_nI, inb_c, ix_c, nI_1, nI_pred, nI_m1, add_nIc, add_cnI, bd_v, reduceCtorEq, eqFcc, m1e0, m1e1, m1l0, m1g0, m2l0, m2g0, Int32.reduceLT, Int32.reduceLE, Int32.reduceAdd, Int32.reduceSub, Int32.reduceMul, eq_self, Bool.false_eq_true, hh]
    · obtain ⟨hc0, hf0⟩ := r_thrown0 h1.1
      show fX10_best x y M1 = _
      have hh := r_isBoat_out hc0.2.1 (by omega) hx
      rw [e_X10_best]
      simp (disch := omega) only [↓reduceIte, ic_t, ic_f, not_true_eq_false, not_false_eq_true, ↓lt_v, rdR, rdE, rdS, leT, leTc, leTd, leF, leFc, leFd, ltT, ltTc, ltTd, ltF, ltFc, ltFd, eqT, eqTc, eqTd, eqF, eqFc, eqFd, m1T, m1F, m1T', m1F', inb_nI, ix_nI, inb_c, ix_c, nI_1, nI_pred, nI_m1, add_nIc, add_cnI, bd_v, reduceCtorEq, eqFcc, m1e0, m1e1, m1l0, m1g0, m2l0, m2g0, Int32.reduceLT, Int32.reduceLE, Int32.reduceAdd, Int32.reduceSub, Int32.reduceMul, eq_self, Bool.false_eq_true, hh]
