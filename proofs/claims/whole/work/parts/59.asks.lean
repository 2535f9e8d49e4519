/-! PURE: asks -/
def qlo (w : Nat) : Nat := if w = 0 then 1 else 0
def qn (w : Nat) : Nat := [9, 10, 6, 2, 2].getD w 0
def qoff (w : Nat) : Nat := [0, 9, 19, 25, 27, 29].getD w 0
def qs : List (Nat × Nat) := [(0,1),(0,2),(0,3),(0,4),(0,5),(0,6),(0,7),(0,8),(0,9),(1,0),(1,1),(1,2),(1,3),(1,4),(1,5),(1,6),(1,7),(1,8),(1,9),(2,0),(2,1),(2,2),(2,3),(2,4),(2,5),(3,0),(3,1),(4,0),(4,1)]
theorem qs_at : ∀ w, w < 5 → ∀ d, d < qn w → qs.getD (qoff w + d) (0, 0) = (w, qlo w + d) ∧ (w < 5 ∧ qlo w + d < 10 ∧ (3 ≤ w → qlo w + d < 2)) ∧ qlo w + d ≤ ix (hMost w) := by decide +kernel
theorem q_tab : ∀ w, w < 5 → qoff (w + 1) = qoff w + qn w ∧ hLeast w = nI (qlo w) ∧ hMost w = nI (qlo w + qn w - 1) ∧ 0 < qn w ∧ qn w ≤ 10 ∧ qlo w ≤ 1 ∧ qoff w ≤ 29 := by decide +kernel
/-- how many are left at most -/
def lf (n : Nat) (fit : Nat → Bool) (sof : Nat → Nat → Nat → Bool) (k : Nat) : Nat := max (cnt (fun b => fit b && sof (qs.getD k (0, 0)).1 (qs.getD k (0, 0)).2 b) n) (cnt fit n - cnt (fun b => fit b && sof (qs.getD k (0, 0)).1 (qs.getD k (0, 0)).2 b) n)
def asS (n : Nat) (fit : Nat → Bool) (sof : Nat → Nat → Nat → Bool) : Nat → Nat × Nat
  | 0 => (lf n fit sof 0, 10 * (qs.getD 0 (0, 0)).1 + (qs.getD 0 (0, 0)).2)
  | k + 1 => if lf n fit sof (k + 1) < (asS n fit sof k).1 then (lf n fit sof (k + 1), 10 * (qs.getD (k + 1) (0, 0)).1 + (qs.getD (k + 1) (0, 0)).2) else asS n fit sof k
theorem cnt_sub {G H : Nat → Bool} : ∀ k, cnt (fun b => G b && H b) k ≤ cnt G k
  | 0 => Nat.le_refl _
  | k + 1 => by
    have := cnt_sub (G := G) (H := H) k
    unfold cnt
    cases G k <;> cases H k <;> simp <;> omega
theorem lf_le {n : Nat} {fit : Nat → Bool} {sof : Nat → Nat → Nat → Bool} {k : Nat} : lf n fit sof k ≤ cnt fit n := by
  unfold lf
  have := cnt_sub (G := fit) (H := fun b => sof (qs.getD k (0, 0)).1 (qs.getD k (0, 0)).2 b) n
  omega
theorem asS_le {n : Nat} {fit : Nat → Bool} {sof : Nat → Nat → Nat → Bool} : ∀ k, (asS n fit sof k).1 ≤ cnt fit n
  | 0 => lf_le
  | k + 1 => by
    unfold asS
    split
    · exact lf_le
    · exact asS_le k
/-- what stands behind k questions -/
def asI (n : Nat) (fit : Nat → Bool) (sof : Nat → Nat → Nat → Bool) (i0 : Int32) (k : Nat) (s : Int32 × Int32) : Prop := (k = 0 → s = (i0, -1)) ∧ ∀ e, k = e + 1 → s = (nI (asS n fit sof e).1, nI (asS n fit sof e).2)
theorem asI_step {n : Nat} {fit : Nat → Bool} {sof : Nat → Nat → Nat → Bool} {i0 : Int32} {k w u y : Nat} {s : Int32 × Int32} (hn : n ≤ 6) (h : asI n fit sof i0 k s) (hq : qs.getD k (0, 0) = (w, u)) (hy : y = lf n fit sof k) (h0 : ∀ y, y ≤ cnt fit n → nI y < i0) (hw : w < 5) (hu : u < 10) :
    (s.1 ≤ nI y → asI n fit sof i0 (k + 1) s) ∧ (¬ s.1 ≤ nI y → asI n fit sof i0 (k + 1) (nI y, nI (10 * w + u))) := by
  have hc := cnt_le fit n
  have hl : y ≤ cnt fit n := by rw [hy]; exact lf_le
  cases k with
  | zero =>
    have e := h.1 rfl
    have hlt := h0 y hl
    refine ⟨fun hle => ?_, fun _ => ⟨fun h => absurd h (by omega), fun e he => ?_⟩⟩
    · exfalso
      rw [e] at hle
      have hle : i0 ≤ nI y := hle
      rw [Int32.lt_iff_toInt_lt] at hlt
      rw [Int32.le_iff_toInt_le] at hle
      omega
    · rw [show e = 0 by omega]
      show _ = (nI (lf n fit sof 0), nI (10 * (qs.getD 0 (0, 0)).1 + (qs.getD 0 (0, 0)).2))
      rw [hq, hy]
  | succ e =>
    have es := h.2 e rfl
    have hle := asS_le (n := n) (fit := fit) (sof := sof) e
    have hst : asS n fit sof (e + 1) = if lf n fit sof (e + 1) < (asS n fit sof e).1 then (lf n fit sof (e + 1), 10 * (qs.getD (e + 1) (0, 0)).1 + (qs.getD (e + 1) (0, 0)).2) else asS n fit sof e := rfl
    rw [es]
    show ((nI (asS n fit sof e).1 ≤ nI y → _) ∧ (¬ nI (asS n fit sof e).1 ≤ nI y → _))
    rw [le_nI (by omega) (by omega)]
    refine ⟨fun hle => ⟨fun h => absurd h (by omega), fun e' he => ?_⟩, fun hgt => ⟨fun h => absurd h (by omega), fun e' he => ?_⟩⟩
    · rw [show e' = e + 1 by omega, hst, if_neg (by omega)]
    · rw [show e' = e + 1 by omega, hst, if_pos (by omega), hq, hy]
theorem c_asks {M : Mem} {n R h : Nat} {v : VV} {F : (Nat → Int32) → Int32} {w u : Nat → Nat} (hc : CR n v F R M) (hh : HC h w u M) {fit : Nat → Bool} (hfit : fit = fun b => fp v (TT F n v) w u b h) :
    Ok (fX9_asks M) (QC (if bm fit n = 0 then -2 else nI (asS n fit (so v (TT F n v)) 28).2) (if bm fit n = 0 then none else some [(nI (asS n fit (so v (TT F n v)) 28).1).toInt64]) M) := by
  have hn : n ≤ 6 := hc.1.1
  rw [e_X9_asks]
  refine ok_call (c_fitting hc hh) (fun q g => ?_)
  obtain ⟨g1, ⟨L, hL⟩, g3, g4⟩ := g
  rw [← hfit] at g1
  have hb64 := (bm_p fit n hn).1
  have hcl := cnt_le fit n
  rw [g1, bc_bm hn]
  by_cases h0 : bm fit n = 0
  · simp (disch := omega) only [↓reduceIte, ic_t, ic_f, not_true_eq_false, not_false_eq_true, ↓lt_v, rdR, rdE, rdS, leT, leTc, leTd, leF, leFc, leFd, ltT, ltTc, ltTd, ltF, ltFc, ltFd, eqT, eqTc, eqTd, eqF, eqFc, eqFd, m1T, m1F, m1T', m1F', inb_nI, ix_nI, inb_c, ix_c, nI_1, nI_pred, nI_m1, add_nIc, add_cnI, bd_v, reduceCtorEq, eqFcc, m1e0, m1e1, m1l0, m1g0, m2l0, m2g0, Int32.reduceLT, Int32.reduceLE, Int32.reduceAdd, Int32.reduceSub, Int32.reduceMul, eq_self, Bool.false_eq_true, h0]
    exact ok_some (qc_none g4)
  · simp (disch := omega) only [↓reduceIte, ic_t, ic_f, not_true_eq_false, not_false_eq_true, ↓lt_v, rdR, rdE, rdS, leT, leTc, leTd, leF, leFc, leFd, ltT, ltTc, ltTd, ltF, ltFc, ltFd, eqT, eqTc, eqTd, eqF, eqFc, eqFd, m1T, m1F, m1T', m1F', inb_nI, ix_nI, inb_c, ix_c, nI_1, nI_pred, nI_m1, add_nIc, add_cnI, bd_v, reduceCtorEq, eqFcc, m1e0, m1e1, m1l0, m1g0, m2l0, m2g0, Int32.reduceLT, Int32.reduceLE, Int32.reduceAdd, Int32.reduceSub, Int32.reduceMul, eq_self, Bool.false_eq_true]
    rw [if_neg h0, if_neg h0]
    have hFU : 2000 < FU := FU_big
    generalize FU = fu0 at hFU ⊢
    refine ok_loop 5 (fun fu w (s : Int32 × Int32) => fX9_asks_27 fu (nI (bm fit n)) (nI (cnt fit n)) s.1 s.2 (nI w) q.2) (fun w s => asI n fit (so v (TT F n v)) (nI (cnt fit n + 1)) (qoff w) s) ?_ ?_ fu0 0 (nI (cnt fit n + 1), -1) (by omega) (by omega) ⟨fun _ => rfl, fun e he => absurd he (by show ¬ 0 = e + 1; omega)⟩
    · intro fu w s hw hs ih
      obtain ⟨t1, t2, t3, t4, t5, t6, t7⟩ := q_tab w hw
      rw [e_X9_asks_27]
      simp (disch := omega) only [↓reduceIte, ic_t, ic_f, not_true_eq_false, not_false_eq_true, ↓lt_v, rdR, rdE, rdS, leT, leTc, leTd, leF, leFc, leFd, ltT, ltTc, ltTd, ltF, ltFc, ltFd, eqT, eqTc, eqTd, eqF, eqFc, eqFd, m1T, m1F, m1T', m1F', inb_nI, ix_nI, inb_c, ix_c, nI_1, nI_pred, nI_m1, add_nIc, add_cnI, bd_v, reduceCtorEq, eqFcc, m1e0, m1e1, m1l0, m1g0, m2l0, m2g0, Int32.reduceLT, Int32.reduceLE, Int32.reduceAdd, Int32.reduceSub, Int32.reduceMul, eq_self, Bool.false_eq_true, t2]
      generalize hg : fX9_asks_27 fu = gg at ih ⊢
      have hFU2 : 2000 < FU := FU_big
      generalize FU = fu1 at hFU2 ⊢
      refine ok_loop (qn w) (fun fu d (s : Int32 × Int32) => fX9_asks_44 gg fu (nI (bm fit n)) (nI (cnt fit n)) s.1 s.2 (nI w) (nI (qlo w + d)) q.2) (fun d s => asI n fit (so v (TT F n v)) (nI (cnt fit n + 1)) (qoff w + d) s) ?_ ?_ fu1 0 s (by omega) (by omega) hs
      · intro fu d s hd hs ih'
        obtain ⟨a1, a2, _⟩ := qs_at w hw d hd
        have hwh := c_which hn g3 hL (tb_TT hc.1) (m_TT hc.1) a2
        have hY := cnt_sub (G := fit) (H := fun b => so v (TT F n v) w (qlo w + d) b) n
        have hlf : lf n fit (so v (TT F n v)) (qoff w + d) = max (cnt (fun b => fit b && so v (TT F n v) w (qlo w + d) b) n) (cnt fit n - cnt (fun b => fit b && so v (TT F n v) w (qlo w + d) b) n) := by unfold lf; rw [a1]
        rw [e_X9_asks_44]
        simp (disch := omega) only [↓reduceIte, ic_t, ic_f, not_true_eq_false, not_false_eq_true, ↓lt_v, rdR, rdE, rdS, leT, leTc, leTd, leF, leFc, leFd, ltT, ltTc, ltTd, ltF, ltFc, ltFd, eqT, eqTc, eqTd, eqF, eqFc, eqFd, m1T, m1F, m1T', m1F', inb_nI, ix_nI, inb_c, ix_c, nI_1, nI_pred, nI_m1, add_nIc, add_cnI, bd_v, reduceCtorEq, eqFcc, m1e0, m1e1, m1l0, m1g0, m2l0, m2g0, Int32.reduceLT, Int32.reduceLE, Int32.reduceAdd, Int32.reduceSub, Int32.reduceMul, eq_self, Bool.false_eq_true, t3, hwh, bm_and, bc_bm, sub_nI]
        generalize hYY : cnt (fun b => fit b && so v (TT F n v) w (qlo w + d) b) n = Y at hY hlf ⊢
        have ey : (if nI Y < nI (cnt fit n - Y) then nI (cnt fit n - Y) else nI Y) = nI (lf n fit (so v (TT F n v)) (qoff w + d)) := by
          rw [hlf]
          by_cases hlt : Y < cnt fit n - Y
          · rw [if_pos (nI_lt hlt (by omega))]; congr 1; omega
          · rw [if_neg (nI_nlt (by omega) (by omega))]; congr 1; omega
        rw [ey]
        obtain ⟨k1, k2⟩ := asI_step hn hs a1 rfl (fun y hy => nI_lt (by omega) (by omega)) a2.1 a2.2.1
        by_cases hle : s.1 ≤ nI (lf n fit (so v (TT F n v)) (qoff w + d))
        · rw [ic_pos hle]
          exact ih' s (k1 hle)
        · rw [ic_neg hle]
          have e10 : (10 * nI w + nI (qlo w + d) : Int32) = nI (10 * w + (qlo w + d)) := by
            rw [show (10 : Int32) * nI w = nI (10 * w) from (Int32.ofNat_mul 10 w).symm, nI_add]
          rw [e10]
          exact ih' (_, _) (k2 hle)
      · intro fu s hs
        rw [e_X9_asks_44]
        simp (disch := omega) only [↓reduceIte, ic_t, ic_f, not_true_eq_false, not_false_eq_true, ↓lt_v, rdR, rdE, rdS, leT, leTc, leTd, leF, leFc, leFd, ltT, ltTc, ltTd, ltF, ltFc, ltFd, eqT, eqTc, eqTd, eqF, eqFc, eqFd, m1T, m1F, m1T', m1F', inb_nI, ix_nI, inb_c, ix_c, nI_1, nI_pred, nI_m1, add_nIc, add_cnI, bd_v, reduceCtorEq, eqFcc, m1e0, m1e1, m1l0, m1g0, m2l0, m2g0, Int32.reduceLT, Int32.reduceLE, Int32.reduceAdd, Int32.reduceSub, Int32.reduceMul, eq_self, Bool.false_eq_true, t3]
        refine ih s ?_
        rw [t1]
        exact hs
    · intro fu s hs
      rw [e_X9_asks_27]
      simp (disch := omega) only [↓reduceIte, ic_t, ic_f, not_true_eq_false, not_false_eq_true, ↓lt_v, rdR, rdE, rdS, leT, leTc, leTd, leF, leFc, leFd, ltT, ltTc, ltTd, ltF, ltFc, ltFd, eqT, eqTc, eqTd, eqF, eqFc, eqFd, m1T, m1F, m1T', m1F', inb_nI, ix_nI, inb_c, ix_c, nI_1, nI_pred, nI_m1, add_nIc, add_cnI, bd_v, reduceCtorEq, eqFcc, m1e0, m1e1, m1l0, m1g0, m2l0, m2g0, Int32.reduceLT, Int32.reduceLE, Int32.reduceAdd, Int32.reduceSub, Int32.reduceMul, eq_self, Bool.false_eq_true]
      have := hs.2 28 rfl
      rw [this]
      exact ok_call (c_tell (kc_fr g4)) (fun M2 k => ok_some ⟨rfl, k.1, k.2.1⟩)
theorem r_asksQ {M : Mem} {n h : Nat} {v : VV} {F : (Nat → Int32) → Int32} {w u : Nat → Nat} (hc : RR n v F M) (hh : HR h w u M) {fit : Nat → Bool} (hfit : fit = fun b => fp v (TT F n v) w u b h) :
    Ok (fX10_asks M) (QR (if bm fit n = 0 then -2 else nI (asS n fit (so v (TT F n v)) 28).2) (if bm fit n = 0 then none else some [(nI (asS n fit (so v (TT F n v)) 28).1).toInt64]) M) := by
  have hn : n ≤ 6 := hc.1.1
  obtain ⟨hc0, hf0⟩ := r_thrown0 hc
  have hh0 : HR h w u (sI M 169 0 0) := ⟨hh.1, by simp (disch := omega) only [↓reduceIte, ic_t, ic_f, not_true_eq_false, not_false_eq_true, ↓lt_v, rdR, rdE, rdS, leT, leTc, leTd, leF, leFc, leFd, ltT, ltTc, ltTd, ltF, ltFc, ltFd, eqT, eqTc, eqTd, eqF, eqFc, eqFd, m1T, m1F, m1T', m1F', inb_nI, ix_nI, inb_c, ix_c, nI_1, nI_pred, nI_m1, add_nIc, add_cnI, bd_v, reduceCtorEq, eqFcc, m1e0, m1e1, m1l0, m1g0, m2l0, m2g0, Int32.reduceLT, Int32.reduceLE, Int32.reduceAdd, Int32.reduceSub, Int32.reduceMul, eq_self, Bool.false_eq_true, hh.2.1], fun i hi => by simp (disch := omega) only [↓reduceIte, ic_t, ic_f, not_true_eq_false, not_false_eq_true, ↓lt_v, rdR, rdE, rdS, leT, leTc, leTd, leF, leFc, leFd, ltT, ltTc, ltTd, ltF, ltFc, ltFd, eqT, eqTc, eqTd, eqF, eqFc, eqFd, m1T, m1F, m1T', m1F', inb_nI, ix_nI, inb_c, ix_c, nI_1, nI_pred, nI_m1, add_nIc, add_cnI, bd_v, reduceCtorEq, eqFcc, m1e0, m1e1, m1l0, m1g0, m2l0, m2g0, Int32.reduceLT, Int32.reduceLE, Int32.reduceAdd, Int32.reduceSub, Int32.reduceMul, eq_self, Bool.false_eq_true]; exact hh.2.2 i hi⟩
  have f0 : ∀ N : Mem, fX10_flag 0 N = some (0, N) := fun N => r_flagI (Or.inl rfl)
  have f1 : ∀ N : Mem, fX10_flag 1 N = some (1, N) := fun N => r_flagI (Or.inr rfl)
  rw [e_X10_asks]
  simp (disch := omega) only [↓reduceIte, ic_t, ic_f, not_true_eq_false, not_false_eq_true, ↓lt_v, rdR, rdE, rdS, leT, leTc, leTd, leF, leFc, leFd, ltT, ltTc, ltTd, ltF, ltFc, ltFd, eqT, eqTc, eqTd, eqF, eqFc, eqFd, m1T, m1F, m1T', m1F', inb_nI, ix_nI, inb_c, ix_c, nI_1, nI_pred, nI_m1, add_nIc, add_cnI, bd_v, reduceCtorEq, eqFcc, m1e0, m1e1, m1l0, m1g0, m2l0, m2g0, Int32.reduceLT, Int32.reduceLE, Int32.reduceAdd, Int32.reduceSub, Int32.reduceMul, eq_self, Bool.false_eq_true]
  refine ok_call (r_fitting hc0 hh0) (fun q g => ?_)
  obtain ⟨g1, ⟨L, hL⟩, g3⟩ := g
  rw [← hfit] at g1
  obtain ⟨hb64, hbt⟩ := bm_p fit n hn
  have hcl := cnt_le fit n
  have fr1 : FrR SR SS1 M q.2 := frR_trans hf0 (frR_SRu g3)
  have hv1 : ∀ i, i < 22 → q.2.1 171 i = v.1 i := fun i hi => by rw [g3.1 171 (by omega) (by unfold PRr; omega)]; exact hc0.2.2.1 i hi
  have e3 := hL.1
  rw [g1]
  by_cases h0 : bm fit n = 0
  · simp (disch := omega) only [↓reduceIte, ic_t, ic_f, not_true_eq_false, not_false_eq_true, ↓lt_v, rdR, rdE, rdS, leT, leTc, leTd, leF, leFc, leFd, ltT, ltTc, ltTd, ltF, ltFc, ltFd, eqT, eqTc, eqTd, eqF, eqFc, eqFd, m1T, m1F, m1T', m1F', inb_nI, ix_nI, inb_c, ix_c, nI_1, nI_pred, nI_m1, add_nIc, add_cnI, bd_v, reduceCtorEq, eqFcc, m1e0, m1e1, m1l0, m1g0, m2l0, m2g0, Int32.reduceLT, Int32.reduceLE, Int32.reduceAdd, Int32.reduceSub, Int32.reduceMul, eq_self, Bool.false_eq_true, h0]
    exact ok_some (qr_none fr1)
  · simp (disch := omega) only [↓reduceIte, ic_t, ic_f, not_true_eq_false, not_false_eq_true, ↓lt_v, rdR, rdE, rdS, leT, leTc, leTd, leF, leFc, leFd, ltT, ltTc, ltTd, ltF, ltFc, ltFd, eqT, eqTc, eqTd, eqF, eqFc, eqFd, m1T, m1F, m1T', m1F', inb_nI, ix_nI, inb_c, ix_c, nI_1, nI_pred, nI_m1, add_nIc, add_cnI, bd_v, reduceCtorEq, eqFcc, m1e0, m1e1, m1l0, m1g0, m2l0, m2g0, Int32.reduceLT, Int32.reduceLE, Int32.reduceAdd, Int32.reduceSub, Int32.reduceMul, eq_self, Bool.false_eq_true]
    rw [if_neg h0, if_neg h0]
    have hFU : 2000 < FU := FU_big
    generalize FU = fu0 at hFU ⊢
    refine ok_loop 5 (fun fu w (s : Int32 × Int32) => fX10_asks_26 fu (nI (bm fit n)) s.2 s.1 (nI w) q.2) (fun w s => asI n fit (so v (TT F n v)) 1000000 (qoff w) s) ?_ ?_ fu0 0 (1000000, -1) (by omega) (by omega) ⟨fun _ => rfl, fun e he => absurd he (by show ¬ 0 = e + 1; omega)⟩
    · intro fu w s hw hs ih
      obtain ⟨t1, t2, t3, t4, t5, t6, t7⟩ := q_tab w hw
      have hlow : fX10_lowest (nI w) q.2 = some (nI (qlo w), q.2) := by
        rw [e_X10_lowest]
        by_cases hw0 : w = 0
        · simp (disch := omega) only [↓reduceIte, ic_t, ic_f, not_true_eq_false, not_false_eq_true, ↓lt_v, rdR, rdE, rdS, leT, leTc, leTd, leF, leFc, leFd, ltT, ltTc, ltTd, ltF, ltFc, ltFd, eqT, eqTc, eqTd, eqF, eqFc, eqFd, m1T, m1F, m1T', m1F', inb_nI, ix_nI, inb_c, ix_c, nI_1, nI_pred, nI_m1, add_nIc, add_cnI, bd_v, reduceCtorEq, eqFcc, m1e0, m1e1, m1l0, m1g0, m2l0, m2g0, Int32.reduceLT, Int32.reduceLE, Int32.reduceAdd, Int32.reduceSub, Int32.reduceMul, eq_self, Bool.false_eq_true, e_X10_lowest_9, f1]; rw [hw0]; rfl
        · simp (disch := omega) only [↓reduceIte, ic_t, ic_f, not_true_eq_false, not_false_eq_true, ↓lt_v, rdR, rdE, rdS, leT, leTc, leTd, leF, leFc, leFd, ltT, ltTc, ltTd, ltF, ltFc, ltFd, eqT, eqTc, eqTd, eqF, eqFc, eqFd, m1T, m1F, m1T', m1F', inb_nI, ix_nI, inb_c, ix_c, nI_1, nI_pred, nI_m1, add_nIc, add_cnI, bd_v, reduceCtorEq, eqFcc, m1e0, m1e1, m1l0, m1g0, m2l0, m2g0, Int32.reduceLT, Int32.reduceLE, Int32.reduceAdd, Int32.reduceSub, Int32.reduceMul, eq_self, Bool.false_eq_true, e_X10_lowest_9, f0]; unfold qlo; rw [if_neg hw0]; rfl
      have hhigh : fX10_highest (nI w) q.2 = some (nI (qlo w + qn w - 1), q.2) := by
        rw [e_X10_highest]
        rcases (show w = 0 ∨ w = 1 ∨ w = 2 ∨ w = 3 ∨ w = 4 by omega) with rfl | rfl | rfl | rfl | rfl <;> simp (disch := omega) only [↓reduceIte, ic_t, ic_f, not_true_eq_false, not_false_eq_true, ↓lt_v, rdR, rdE, rdS, leT, leTc, leTd, leF, leFc, leFd, ltT, ltTc, ltTd, ltF, ltFc, ltFd, eqT, eqTc, eqTd, eqF, eqFc, eqFd, m1T, m1F, m1T', m1F', inb_nI, ix_nI, inb_c, ix_c, nI_1, nI_pred, nI_m1, add_nIc, add_cnI, bd_v, reduceCtorEq, eqFcc, m1e0, m1e1, m1l0, m1g0, m2l0, m2g0, Int32.reduceLT, Int32.reduceLE, Int32.reduceAdd, Int32.reduceSub, Int32.reduceMul, eq_self, Bool.false_eq_true] <;> rfl
      rw [e_X10_asks_26]
      simp (disch := omega) only [↓reduceIte, ic_t, ic_f, not_true_eq_false, not_false_eq_true, ↓lt_v, rdR, rdE, rdS, leT, leTc, leTd, leF, leFc, leFd, ltT, ltTc, ltTd, ltF, ltFc, ltFd, eqT, eqTc, eqTd, eqF, eqFc, eqFd, m1T, m1F, m1T', m1F', inb_nI, ix_nI, inb_c, ix_c, nI_1, nI_pred, nI_m1, add_nIc, add_cnI, bd_v, reduceCtorEq, eqFcc, m1e0, m1e1, m1l0, m1g0, m2l0, m2g0, Int32.reduceLT, Int32.reduceLE, Int32.reduceAdd, Int32.reduceSub, Int32.reduceMul, eq_self, Bool.false_eq_true, hlow]
      generalize hg : fX10_asks_26 fu = gg at ih ⊢
      have hFU2 : 2000 < FU := FU_big
      generalize FU = fu1 at hFU2 ⊢
      refine ok_loop (qn w) (fun fu d (s : Int32 × Int32) => fX10_asks_39 gg fu (nI (bm fit n)) s.2 s.1 (nI w) (nI (qlo w + d)) q.2) (fun d s => asI n fit (so v (TT F n v)) 1000000 (qoff w + d) s) ?_ ?_ fu1 0 s (by omega) (by omega) hs
      · intro fu d s hd hs ih'
        obtain ⟨a1, a2, _⟩ := qs_at w hw d hd
        have hY := cnt_sub (G := fit) (H := fun b => so v (TT F n v) w (qlo w + d) b) n
        have hlf : lf n fit (so v (TT F n v)) (qoff w + d) = max (cnt (fun b => fit b && so v (TT F n v) w (qlo w + d) b) n) (cnt fit n - cnt (fun b => fit b && so v (TT F n v) w (qlo w + d) b) n) := by unfold lf; rw [a1]
        rw [e_X10_asks_39]
        simp (disch := omega) only [↓reduceIte, ic_t, ic_f, not_true_eq_false, not_false_eq_true, ↓lt_v, rdR, rdE, rdS, leT, leTc, leTd, leF, leFc, leFd, ltT, ltTc, ltTd, ltF, ltFc, ltFd, eqT, eqTc, eqTd, eqF, eqFc, eqFd, m1T, m1F, m1T', m1F', inb_nI, ix_nI, inb_c, ix_c, nI_1, nI_pred, nI_m1, add_nIc, add_cnI, bd_v, reduceCtorEq, eqFcc, m1e0, m1e1, m1l0, m1g0, m2l0, m2g0, Int32.reduceLT, Int32.reduceLE, Int32.reduceAdd, Int32.reduceSub, Int32.reduceMul, eq_self, Bool.false_eq_true, hhigh]
        generalize hg2 : fX10_asks_39 gg fu = g2 at ih' ⊢
        have hFU3 : 2000 < FU := FU_big
        generalize FU = fu2 at hFU3 ⊢
        refine ok_loop n (fun fu b (y : Int32) => fX10_asks_55 g2 fu (nI (bm fit n)) s.2 s.1 (nI w) (nI (qlo w + d)) y (nI b) q.2) (fun b (y : Int32) => y = nI (cnt (fun b => fit b && so v (TT F n v) w (qlo w + d) b) b)) ?_ ?_ fu2 0 0 (by omega) (by omega) rfl
        · intro fu b y hb hy ih2
          have hso := r_isSo hn hv1 hL (tb_TT hc.1) (m_TT hc.1) a2 hb
          have hhb : fX10_has (nI (bm fit n)) (nI b) q.2 = some (bI (fit b), q.2) := by
            rw [r_has hb64 (by omega), hbt b (by omega)]
            simp [hb]
          have hst : cnt (fun b => fit b && so v (TT F n v) w (qlo w + d) b) (b + 1) = cnt (fun b => fit b && so v (TT F n v) w (qlo w + d) b) b + (if (fit b && so v (TT F n v) w (qlo w + d) b) = true then 1 else 0) := rfl
          rw [e_X10_asks_55]
          simp (disch := omega) only [↓reduceIte, ic_t, ic_f, not_true_eq_false, not_false_eq_true, ↓lt_v, rdR, rdE, rdS, leT, leTc, leTd, leF, leFc, leFd, ltT, ltTc, ltTd, ltF, ltFc, ltFd, eqT, eqTc, eqTd, eqF, eqFc, eqFd, m1T, m1F, m1T', m1F', inb_nI, ix_nI, inb_c, ix_c, nI_1, nI_pred, nI_m1, add_nIc, add_cnI, bd_v, reduceCtorEq, eqFcc, m1e0, m1e1, m1l0, m1g0, m2l0, m2g0, Int32.reduceLT, Int32.reduceLE, Int32.reduceAdd, Int32.reduceSub, Int32.reduceMul, eq_self, Bool.false_eq_true, e3, hhb, hso, bI_0, hy]
          cases hf1 : fit b
          · simp (disch := omega) only [↓reduceIte, ic_t, ic_f, not_true_eq_false, not_false_eq_true, ↓lt_v, rdR, rdE, rdS, leT, leTc, leTd, leF, leFc, leFd, ltT, ltTc, ltTd, ltF, ltFc, ltFd, eqT, eqTc, eqTd, eqF, eqFc, eqFd, m1T, m1F, m1T', m1F', inb_nI, ix_nI, inb_c, ix_c, nI_1, nI_pred, nI_m1, add_nIc, add_cnI, bd_v, reduceCtorEq, eqFcc, m1e0, m1e1, m1l0, m1g0, m2l0, m2g0, Int32.reduceLT, Int32.reduceLE, Int32.reduceAdd, Int32.reduceSub, Int32.reduceMul, eq_self, Bool.false_eq_true, e_X10_asks_92, e_X10_asks_93, f0]
            refine ih2 _ ?_
            rw [hst, hf1]
            simp
          · cases hs1 : so v (TT F n v) w (qlo w + d) b
            · simp (disch := omega) only [↓reduceIte, ic_t, ic_f, not_true_eq_false, not_false_eq_true, ↓lt_v, rdR, rdE, rdS, leT, leTc, leTd, leF, leFc, leFd, ltT, ltTc, ltTd, ltF, ltFc, ltFd, eqT, eqTc, eqTd, eqF, eqFc, eqFd, m1T, m1F, m1T', m1F', inb_nI, ix_nI, inb_c, ix_c, nI_1, nI_pred, nI_m1, add_nIc, add_cnI, bd_v, reduceCtorEq, eqFcc, m1e0, m1e1, m1l0, m1g0, m2l0, m2g0, Int32.reduceLT, Int32.reduceLE, Int32.reduceAdd, Int32.reduceSub, Int32.reduceMul, eq_self, Bool.false_eq_true, e_X10_asks_92, e_X10_asks_93, f0]
              refine ih2 _ ?_
              rw [hst, hf1, hs1]
              simp
            · simp (disch := omega) only [↓reduceIte, ic_t, ic_f, not_true_eq_false, not_false_eq_true, ↓lt_v, rdR, rdE, rdS, leT, leTc, leTd, leF, leFc, leFd, ltT, ltTc, ltTd, ltF, ltFc, ltFd, eqT, eqTc, eqTd, eqF, eqFc, eqFd, m1T, m1F, m1T', m1F', inb_nI, ix_nI, inb_c, ix_c, nI_1, nI_pred, nI_m1, add_nIc, add_cnI, bd_v, reduceCtorEq, eqFcc, m1e0, m1e1, m1l0, m1g0, m2l0, m2g0, Int32.reduceLT, Int32.reduceLE, Int32.reduceAdd, Int32.reduceSub, Int32.reduceMul, eq_self, Bool.false_eq_true, e_X10_asks_93, f1]
              refine ih2 _ ?_
              rw [hst, hf1, hs1]
              simp
        · intro fu y hy
          have hcY := cnt_le (fun b => fit b && so v (TT F n v) w (qlo w + d) b) n
          rw [e_X10_asks_55]
          simp (disch := omega) only [↓reduceIte, ic_t, ic_f, not_true_eq_false, not_false_eq_true, ↓lt_v, rdR, rdE, rdS, leT, leTc, leTd, leF, leFc, leFd, ltT, ltTc, ltTd, ltF, ltFc, ltFd, eqT, eqTc, eqTd, eqF, eqFc, eqFd, m1T, m1F, m1T', m1F', inb_nI, ix_nI, inb_c, ix_c, nI_1, nI_pred, nI_m1, add_nIc, add_cnI, bd_v, reduceCtorEq, eqFcc, m1e0, m1e1, m1l0, m1g0, m2l0, m2g0, Int32.reduceLT, Int32.reduceLE, Int32.reduceAdd, Int32.reduceSub, Int32.reduceMul, eq_self, Bool.false_eq_true, e3, hy, bc_bm, sub_nI]
          generalize hYY : cnt (fun b => fit b && so v (TT F n v) w (qlo w + d) b) n = Y at hY hlf hcY ⊢
          have ey : (if nI Y < nI (cnt fit n - Y) then nI (cnt fit n - Y) else nI Y) = nI (lf n fit (so v (TT F n v)) (qoff w + d)) := by
            rw [hlf]
            by_cases hlt : Y < cnt fit n - Y
            · rw [if_pos (nI_lt hlt (by omega))]; congr 1; omega
            · rw [if_neg (nI_nlt (by omega) (by omega))]; congr 1; omega
          rw [ey]
          have hll := lf_le (n := n) (fit := fit) (sof := so v (TT F n v)) (k := qoff w + d)
          obtain ⟨k1, k2⟩ := asI_step hn hs a1 rfl (fun y hy => nI_lt (b := 1000000) (by omega) (by omega)) a2.1 a2.2.1
          by_cases hle : s.1 ≤ nI (lf n fit (so v (TT F n v)) (qoff w + d))
          · rw [ic_pos hle, e_X10_asks_137]
            have : ¬ nI (lf n fit (so v (TT F n v)) (qoff w + d)) < s.1 := fun q => by
              rw [Int32.lt_iff_toInt_lt] at q
              rw [Int32.le_iff_toInt_le] at hle
              omega
            simp (disch := omega) only [↓reduceIte, ic_t, ic_f, not_true_eq_false, not_false_eq_true, ↓lt_v, rdR, rdE, rdS, leT, leTc, leTd, leF, leFc, leFd, ltT, ltTc, ltTd, ltF, ltFc, ltFd, eqT, eqTc, eqTd, eqF, eqFc, eqFd, m1T, m1F, m1T', m1F', inb_nI, ix_nI, inb_c, ix_c, nI_1, nI_pred, nI_m1, add_nIc, add_cnI, bd_v, reduceCtorEq, eqFcc, m1e0, m1e1, m1l0, m1g0, m2l0, m2g0, Int32.reduceLT, Int32.reduceLE, Int32.reduceAdd, Int32.reduceSub, Int32.reduceMul, eq_self, Bool.false_eq_true, eq_false this]
            exact ih' s (k1 hle)
          · rw [ic_neg hle, e_X10_asks_137]
            have : nI (lf n fit (so v (TT F n v)) (qoff w + d)) < s.1 := by
              rw [Int32.lt_iff_toInt_lt]
              rw [Int32.le_iff_toInt_le] at hle
              omega
            have e10 : (10 * nI w + nI (qlo w + d) : Int32) = nI (10 * w + (qlo w + d)) := by
              rw [show (10 : Int32) * nI w = nI (10 * w) from (Int32.ofNat_mul 10 w).symm, nI_add]
            simp (disch := omega) only [↓reduceIte, ic_t, ic_f, not_true_eq_false, not_false_eq_true, ↓lt_v, rdR, rdE, rdS, leT, leTc, leTd, leF, leFc, leFd, ltT, ltTc, ltTd, ltF, ltFc, ltFd, eqT, eqTc, eqTd, eqF, eqFc, eqFd, m1T, m1F, m1T', m1F', inb_nI, ix_nI, inb_c, ix_c, nI_1, nI_pred, nI_m1, add_nIc, add_cnI, bd_v, reduceCtorEq, eqFcc, m1e0, m1e1, m1l0, m1g0, m2l0, m2g0, Int32.reduceLT, Int32.reduceLE, Int32.reduceAdd, Int32.reduceSub, Int32.reduceMul, eq_self, Bool.false_eq_true, eq_true this, e10]
            exact ih' (_, _) (k2 hle)
      · intro fu s hs
        rw [e_X10_asks_39]
        simp (disch := omega) only [↓reduceIte, ic_t, ic_f, not_true_eq_false, not_false_eq_true, ↓lt_v, rdR, rdE, rdS, leT, leTc, leTd, leF, leFc, leFd, ltT, ltTc, ltTd, ltF, ltFc, ltFd, eqT, eqTc, eqTd, eqF, eqFc, eqFd, m1T, m1F, m1T', m1F', inb_nI, ix_nI, inb_c, ix_c, nI_1, nI_pred, nI_m1, add_nIc, add_cnI, bd_v, reduceCtorEq, eqFcc, m1e0, m1e1, m1l0, m1g0, m2l0, m2g0, Int32.reduceLT, Int32.reduceLE, Int32.reduceAdd, Int32.reduceSub, Int32.reduceMul, eq_self, Bool.false_eq_true, hhigh]
        refine ih s ?_
        rw [t1]
        exact hs
    · intro fu s hs
      rw [e_X10_asks_26]
      simp (disch := omega) only [↓reduceIte, ic_t, ic_f, not_true_eq_false, not_false_eq_true, ↓lt_v, rdR, rdE, rdS, leT, leTc, leTd, leF, leFc, leFd, ltT, ltTc, ltTd, ltF, ltFc, ltFd, eqT, eqTc, eqTd, eqF, eqFc, eqFd, m1T, m1F, m1T', m1F', inb_nI, ix_nI, inb_c, ix_c, nI_1, nI_pred, nI_m1, add_nIc, add_cnI, bd_v, reduceCtorEq, eqFcc, m1e0, m1e1, m1l0, m1g0, m2l0, m2g0, Int32.reduceLT, Int32.reduceLE, Int32.reduceAdd, Int32.reduceSub, Int32.reduceMul, eq_self, Bool.false_eq_true]
      have := hs.2 28 rfl
      rw [this]
      exact r_tell1 (kr_1 fr1) (fun M2 k1 k2 k3 k4 => ok_some ⟨rfl, k1, k2⟩)
