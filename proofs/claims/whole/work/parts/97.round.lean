/-! PURE: round -/
theorem wf_prm {n : Nat} {v : VV} (hw : WfV n v) : Prm n v.2 := by
  have hn : n ≤ 6 := hw.1
  refine ⟨fun i hi => (hw.2.1 i hi).1, fun i j hi hj e => ?_⟩
  have h1 := (hw.2.1 i hi).2
  have h2 := (hw.2.1 j hj).2
  rw [e, h2] at h1
  have := (nI_eq (by omega) (by omega)).1 h1
  omega
theorem b6_congr {o p : Nat → Nat} : ∀ n, (∀ i, i < n → o i = p i) → b6 o n = b6 p n
  | 0, _ => rfl
  | n + 1, h => by
    show b6 o n * 6 + o n = b6 p n * 6 + p n
    rw [b6_congr n (fun i hi => h i (by omega)), h n (by omega)]
theorem lh_congr {o p : Nat → Nat} {n : Nat} (h : ∀ i, i < n → o i = p i) : ∀ k, k ≤ n → lh n o k = lh n p k
  | 0, _ => rfl
  | k + 1, hk => by
    show lh n o k + cs n o k * fac (n - 1 - k) = lh n p k + cs n p k * fac (n - 1 - k)
    have : cs n o k = cs n p k := sm_congr n (fun j hj => by rw [h j hj, h k (by omega)])
    rw [lh_congr h k (by omega), this]
def ob (F : (Nat → Int32) → Int32) (n : Nat) (v : VV) (k : Nat) : Nat := b6 (days F n k v).2 n
def ol (F : (Nat → Int32) → Int32) (n : Nat) (v : VV) (k : Nat) : Nat := lh n (days F n k v).2 n
theorem ob_ol {F : (Nat → Int32) → Int32} {n : Nat} {v : VV} (hw : WfV n v) (i j : Nat) : ob F n v i = ob F n v j ↔ ol F n v i = ol F n v j := by
  have hn : n ≤ 6 := hw.1
  have p1 := wf_prm (wf_days (F := F) hw i)
  have p2 := wf_prm (wf_days (F := F) hw j)
  refine ⟨fun e => lh_congr (b6_inj n (fun i hi => ⟨?_, ?_⟩) e) n (Nat.le_refl _), fun e => b6_congr n (lh_inj hn p1 p2 e)⟩
  · have := p1.1 i hi; omega
  · have := p2.1 i hi; omega
theorem b6_lt {o : Nat → Nat} : ∀ n, (∀ i, i < n → o i < 6) → b6 o n < 6 ^ n
  | 0, _ => Nat.one_pos
  | n + 1, h => by
    have ih := b6_lt n (fun i hi => h i (by omega))
    have := h n (by omega)
    show b6 o n * 6 + o n < 6 ^ n * 6
    omega
theorem ob_lt {F : (Nat → Int32) → Int32} {n : Nat} {v : VV} (hw : WfV n v) (k : Nat) : ob F n v k < 46656 := by
  have hn : n ≤ 6 := hw.1
  have h1 := b6_lt (o := (days F n k v).2) n (fun i hi => by have := (wf_prm (wf_days (F := F) hw k)).1 i hi; omega)
  have h2 : 6 ^ n ≤ 6 ^ 6 := Nat.pow_le_pow_right (by omega) hn
  have h3 : 6 ^ 6 = 46656 := rfl
  unfold ob
  omega
def nwd (F : (Nat → Int32) → Int32) (n : Nat) (v : VV) (k : Nat) : Bool := decide (∀ j, j < k → ob F n v j ≠ ob F n v k)
def cnd (F : (Nat → Int32) → Int32) (n : Nat) (v : VV) : Nat → Nat
  | 0 => 0
  | k + 1 => cnd F n v k + (if nwd F n v k = true then 1 else 0)
theorem cnd_le {F : (Nat → Int32) → Int32} {n : Nat} {v : VV} : ∀ k, cnd F n v k ≤ k
  | 0 => Nat.le_refl _
  | k + 1 => by
    have := cnd_le (F := F) (n := n) (v := v) k
    unfold cnd
    split <;> omega
def rq (F : (Nat → Int32) → Int32) (n : Nat) (v : VV) : Nat := nx (fun k => decide (ob F n v (k + 1) = ob F n v 0)) 60 60
theorem c_isSeen {M : Mem} {c y : Nat} {G : Nat → Nat} (hc : c ≤ 61) (hy : y < 100000) (hG : ∀ i, i < c → M.1 144 i = nI (G i) ∧ G i < 100000) : fX9_isSeen (nI y) (nI c) M = some (bI (decide (∃ i, i < c ∧ G i = y)), M) := by
  have hFU : 2000 < FU := FU_big
  have go : ∀ d k fu, k + d = c → d + 1 ≤ fu → (∀ i, i < k → G i ≠ y) → fX9_isSeen_2 fu (nI y) (nI c) (nI k) M = some (bI (decide (∃ i, i < c ∧ G i = y)), M) := by
    intro d
    induction d with
    | zero =>
      intro k fu hk hf hn
      have hk : k = c := hk
      subst hk
      obtain ⟨fu, rfl⟩ : ∃ m, fu = m + 1 := ⟨fu - 1, by omega⟩
      have : decide (∃ i, i < k ∧ G i = y) = false := decide_eq_false (fun ⟨i, h1, h2⟩ => hn i h1 h2)
      rw [e_X9_isSeen_2, this]
      simp (disch := omega) only [↓reduceIte, ic_t, ic_f, not_true_eq_false, not_false_eq_true, ↓lt_v, leT, leTc, leTd, leF, leFc, leFd, ltT, ltTc, ltTd, ltF, ltFc, ltFd, eqT, eqTc, eqTd, eqF, eqFc, eqFd, m1T, m1F, m1T', m1F', inb_nI, ix_nI, inb_c, ix_c, nI_1, nI_pred, nI_m1, add_nIc, add_cnI, bd_v, reduceCtorEq, eqFcc, m1e0, m1e1, m1l0, m1g0, m2l0, m2g0, Int32.reduceLT, Int32.reduceLE, Int32.reduceAdd, Int32.reduceSub, Int32.reduceMul, eq_self, Bool.false_eq_true]
      rfl
    | succ d ih =>
      intro k fu hk hf hn
      obtain ⟨fu, rfl⟩ : ∃ m, fu = m + 1 := ⟨fu - 1, by omega⟩
      obtain ⟨g1, g2⟩ := hG k (by omega)
      rw [e_X9_isSeen_2]
      by_cases e : G k = y
      · have : decide (∃ i, i < c ∧ G i = y) = true := decide_eq_true ⟨k, by omega, e⟩
        rw [this]
        simp (disch := omega) only [↓reduceIte, ic_t, ic_f, not_true_eq_false, not_false_eq_true, ↓lt_v, leT, leTc, leTd, leF, leFc, leFd, ltT, ltTc, ltTd, ltF, ltFc, ltFd, eqT, eqTc, eqTd, eqF, eqFc, eqFd, m1T, m1F, m1T', m1F', inb_nI, ix_nI, inb_c, ix_c, nI_1, nI_pred, nI_m1, add_nIc, add_cnI, bd_v, reduceCtorEq, eqFcc, m1e0, m1e1, m1l0, m1g0, m2l0, m2g0, Int32.reduceLT, Int32.reduceLE, Int32.reduceAdd, Int32.reduceSub, Int32.reduceMul, eq_self, Bool.false_eq_true, g1]
        rfl
      · simp (disch := omega) only [↓reduceIte, ic_t, ic_f, not_true_eq_false, not_false_eq_true, ↓lt_v, leT, leTc, leTd, leF, leFc, leFd, ltT, ltTc, ltTd, ltF, ltFc, ltFd, eqT, eqTc, eqTd, eqF, eqFc, eqFd, m1T, m1F, m1T', m1F', inb_nI, ix_nI, inb_c, ix_c, nI_1, nI_pred, nI_m1, add_nIc, add_cnI, bd_v, reduceCtorEq, eqFcc, m1e0, m1e1, m1l0, m1g0, m2l0, m2g0, Int32.reduceLT, Int32.reduceLE, Int32.reduceAdd, Int32.reduceSub, Int32.reduceMul, eq_self, Bool.false_eq_true, g1]
        refine ih (k + 1) fu (by omega) (by omega) (fun i hi => ?_)
        by_cases q : i = k
        · subst q; exact e
        · exact hn i (by omega)
  rw [e_X9_isSeen]
  exact go c 0 FU (by omega) (by omega) (fun i hi => absurd hi (Nat.not_lt_zero _))
/-- the seen numbers behind k days -/
def SnC (F : (Nat → Int32) → Int32) (n : Nat) (v : VV) (k : Nat) (s : Mem) : Prop := ∃ G : Nat → Nat, (∀ i, i < cnd F n v k → s.1 144 i = nI (G i) ∧ G i < 100000) ∧ ∀ y, (∃ i, i < cnd F n v k ∧ G i = y) ↔ ∃ j, j < k ∧ ob F n v j = y
theorem snC_fr {F : (Nat → Int32) → Int32} {n k : Nat} {v : VV} {s s' : Mem} (h : SnC F n v k s) (e : s'.1 144 = s.1 144) : SnC F n v k s' := by
  unfold SnC; rw [e]; exact h
theorem c_round {M : Mem} {n R : Nat} {v : VV} {F : (Nat → Int32) → Int32} (hc : CR n v F R M) :
    Ok (fX9_round M) (QC (if rq F n v = 0 then -2 else nI (rq F n v)) (if rq F n v = 0 then none else some [(nI (cnd F n v (rq F n v))).toInt64]) M) := by
  have hn : n ≤ 6 := hc.1.1
  have hw := hc.1
  rw [e_X9_round]
  refine c_trial hc (fun M1 g1 g2 g3 g4 => ?_)
  rw [c_orderNumber hn g2.2.1]
  have b0 := ob_lt (F := F) hw 0
  have e0 : b6 v.2 n = ob F n v 0 := rfl
  simp (disch := omega) only [↓reduceIte, ic_t, ic_f, not_true_eq_false, not_false_eq_true, ↓lt_v, rdR, rdE, rdS, leT, leTc, leTd, leF, leFc, leFd, ltT, ltTc, ltTd, ltF, ltFc, ltFd, eqT, eqTc, eqTd, eqF, eqFc, eqFd, m1T, m1F, m1T', m1F', inb_nI, ix_nI, inb_c, ix_c, nI_1, nI_pred, nI_m1, add_nIc, add_cnI, bd_v, reduceCtorEq, eqFcc, m1e0, m1e1, m1l0, m1g0, m2l0, m2g0, Int32.reduceLT, Int32.reduceLE, Int32.reduceAdd, Int32.reduceSub, Int32.reduceMul, eq_self, Bool.false_eq_true, e0]
  have g1' : RvC 16 n v (sI M1 144 0 (nI (ob F n v 0))) := rivC_fr g1 (fun a h1 h2 => by simp (disch := omega) only [row_n])
  have hR := hc.2.2.2.2
  have g2' : RuC R F (sI M1 144 0 (nI (ob F n v 0))) := ruC_fr g2.2.2.1 (by simp (disch := omega) only [row_n]) (by simp (disch := omega) only [row_n])
  have g4' : Fr SC M (sI M1 144 0 (nI (ob F n v 0))) := fr_trans g4 (fr_sI (by unfold SC; omega))
  have n0 : nwd F n v 0 = true := decide_eq_true (fun j hj => absurd hj (Nat.not_lt_zero _))
  have c1 : cnd F n v 1 = 1 := by
    show 0 + (if nwd F n v 0 = true then 1 else 0) = 1
    rw [n0]; rfl
  have sn1 : SnC F n v 1 (sI M1 144 0 (nI (ob F n v 0))) := by
    refine ⟨fun _ => ob F n v 0, fun i hi => ?_, fun y => ⟨fun ⟨i, h1, h2⟩ => ⟨0, by omega, h2⟩, fun ⟨j, h1, h2⟩ => ⟨0, by omega, ?_⟩⟩⟩
    · have : i = 0 := by omega
      subst this
      exact ⟨by simp (disch := omega) only [↓reduceIte, ic_t, ic_f, not_true_eq_false, not_false_eq_true, ↓lt_v, rdR, rdE, rdS, leT, leTc, leTd, leF, leFc, leFd, ltT, ltTc, ltTd, ltF, ltFc, ltFd, eqT, eqTc, eqTd, eqF, eqFc, eqFd, m1T, m1F, m1T', m1F', inb_nI, ix_nI, inb_c, ix_c, nI_1, nI_pred, nI_m1, add_nIc, add_cnI, bd_v, reduceCtorEq, eqFcc, m1e0, m1e1, m1l0, m1g0, m2l0, m2g0, Int32.reduceLT, Int32.reduceLE, Int32.reduceAdd, Int32.reduceSub, Int32.reduceMul, eq_self, Bool.false_eq_true], Nat.lt_trans b0 (by omega)⟩
    · have : j = 0 := by omega
      subst this
      exact h2
  have g3' : (sI M1 144 0 (nI (ob F n v 0))).2.2 1 17 = R := g3
  generalize sI M1 144 0 (nI (ob F n v 0)) = M2 at g1' g2' g3' g4' sn1 ⊢
  have hFU : 2000 < FU := FU_big
  generalize FU = fu0 at hFU ⊢
  refine ok_loop 60 (fun fu k (s : Int32 × Mem) => fX9_round_30 fu (nI (ob F n v 0)) s.1 (nI (k + 1)) s.2) (fun k s => s.1 = nI (cnd F n v (k + 1)) ∧ (∀ j, j < k → decide (ob F n v (j + 1) = ob F n v 0) = false) ∧ TrC n (days F n k v) F R M s.2 ∧ SnC F n v (k + 1) s.2) ?_ ?_ fu0 0 (1, M2) (by omega) (by omega) ⟨by rw [c1]; rfl, fun j hj => absurd hj (Nat.not_lt_zero _), ⟨g1', g2', g3', g4'⟩, sn1⟩
  · intro fu k s hk hs ih
    obtain ⟨b1, b2, b3, b4⟩ := hs
    obtain ⟨t1, t2, t3, t4⟩ := b3
    have cl := cnd_le (F := F) (n := n) (v := v) (k + 1)
    have b5 := ob_lt (F := F) hw (k + 1)
    rw [e_X9_round_30, t3]
    simp (disch := omega) only [↓reduceIte, ic_t, ic_f, not_true_eq_false, not_false_eq_true, ↓lt_v, rdR, rdE, rdS, leT, leTc, leTd, leF, leFc, leFd, ltT, ltTc, ltTd, ltF, ltFc, ltFd, eqT, eqTc, eqTd, eqF, eqFc, eqFd, m1T, m1F, m1T', m1F', inb_nI, ix_nI, inb_c, ix_c, nI_1, nI_pred, nI_m1, add_nIc, add_cnI, bd_v, reduceCtorEq, eqFcc, m1e0, m1e1, m1l0, m1g0, m2l0, m2g0, Int32.reduceLT, Int32.reduceLE, Int32.reduceAdd, Int32.reduceSub, Int32.reduceMul, eq_self, Bool.false_eq_true]
    refine ok_call (c_pass1 (wf_days hw k) (by omega) hc.2.2.2.2 t1 t2) (fun q g => ?_)
    have q1 : RvC 16 n (days F n (k + 1) v) q.2 := g.2.1
    have q4 : SnC F n v (k + 1) q.2 := snC_fr b4 (g.2.2.2.2.1 144 (by have := hc.2.2.2.2; unfold PDy; omega))
    have q5 : TrC n (days F n (k + 1) v) F R M q.2 := ⟨q1, g.2.2.2.1, by rw [g.2.2.2.2.2]; exact t3, fr_trans t4 (fr_SC g.2.2.2.2 (by omega) hc.2.2.2.2)⟩
    have eo : b6 (days F n (k + 1) v).2 n = ob F n v (k + 1) := rfl
    rw [c_orderNumber hn q1, eo, b1]
    by_cases c : ob F n v (k + 1) = ob F n v 0
    · have er : rq F n v = k + 1 := nx1 hk (decide_eq_true c) b2
      rw [er]
      simp (disch := omega) only [↓reduceIte, ic_t, ic_f, not_true_eq_false, not_false_eq_true, ↓lt_v, rdR, rdE, rdS, leT, leTc, leTd, leF, leFc, leFd, ltT, ltTc, ltTd, ltF, ltFc, ltFd, eqT, eqTc, eqTd, eqF, eqFc, eqFd, m1T, m1F, m1T', m1F', inb_nI, ix_nI, inb_c, ix_c, nI_1, nI_pred, nI_m1, add_nIc, add_cnI, bd_v, reduceCtorEq, eqFcc, m1e0, m1e1, m1l0, m1g0, m2l0, m2g0, Int32.reduceLT, Int32.reduceLE, Int32.reduceAdd, Int32.reduceSub, Int32.reduceMul, eq_self, Bool.false_eq_true]
      refine ok_call (c_tell (kc_fr q5.2.2.2)) (fun M2 q => ok_some ⟨?_, q.1, ?_⟩)
      · rfl
      · exact q.2.1
    · obtain ⟨G, h1, h2⟩ := q4
      rw [bd_v, ic_neg (by rw [eq_nI (by omega) (by omega)]; exact c), c_isSeen (G := G) (by omega) (by omega) h1]
      have hb2 : ∀ j, j < k + 1 → decide (ob F n v (j + 1) = ob F n v 0) = false := fun j hj => by
        by_cases e : j = k
        · subst e; exact decide_eq_false c
        · exact b2 j (by omega)
      have h3 := h2 (ob F n v (k + 1))
      by_cases d : ∃ j, j < k + 1 ∧ ob F n v j = ob F n v (k + 1)
      · rw [decide_eq_true (h3.2 d)]
        have nw : nwd F n v (k + 1) = false := decide_eq_false (fun q => by obtain ⟨j, j1, j2⟩ := d; exact q j j1 j2)
        have ce : cnd F n v (k + 1 + 1) = cnd F n v (k + 1) := by
          show cnd F n v (k + 1) + (if nwd F n v (k + 1) = true then 1 else 0) = _
          rw [nw]; rfl
        have b1 : bI true = 1 := rfl
        simp (disch := omega) only [↓reduceIte, ic_t, ic_f, not_true_eq_false, not_false_eq_true, ↓lt_v, rdR, rdE, rdS, leT, leTc, leTd, leF, leFc, leFd, ltT, ltTc, ltTd, ltF, ltFc, ltFd, eqT, eqTc, eqTd, eqF, eqFc, eqFd, m1T, m1F, m1T', m1F', inb_nI, ix_nI, inb_c, ix_c, nI_1, nI_pred, nI_m1, add_nIc, add_cnI, bd_v, reduceCtorEq, eqFcc, m1e0, m1e1, m1l0, m1g0, m2l0, m2g0, Int32.reduceLT, Int32.reduceLE, Int32.reduceAdd, Int32.reduceSub, Int32.reduceMul, eq_self, Bool.false_eq_true, b1]
        refine ih (nI (cnd F n v (k + 1)), q.2) ⟨by rw [ce], hb2, q5, G, by rw [ce]; exact h1, fun y => ?_⟩
        rw [ce, h2 y]
        refine ⟨fun ⟨j, j1, j2⟩ => ⟨j, by omega, j2⟩, fun ⟨j, j1, j2⟩ => ?_⟩
        by_cases e : j = k + 1
        · subst e
          obtain ⟨i, i1, i2⟩ := d
          exact ⟨i, i1, i2.trans j2⟩
        · exact ⟨j, by omega, j2⟩
      · rw [decide_eq_false (fun q => d (h3.1 q))]
        have nw : nwd F n v (k + 1) = true := decide_eq_true (fun j j1 j2 => d ⟨j, j1, j2⟩)
        have ce : cnd F n v (k + 1 + 1) = cnd F n v (k + 1) + 1 := by
          show cnd F n v (k + 1) + (if nwd F n v (k + 1) = true then 1 else 0) = _
          rw [nw]; rfl
        have b0 : bI false = 0 := rfl
        simp (disch := omega) only [↓reduceIte, ic_t, ic_f, not_true_eq_false, not_false_eq_true, ↓lt_v, rdR, rdE, rdS, leT, leTc, leTd, leF, leFc, leFd, ltT, ltTc, ltTd, ltF, ltFc, ltFd, eqT, eqTc, eqTd, eqF, eqFc, eqFd, m1T, m1F, m1T', m1F', inb_nI, ix_nI, inb_c, ix_c, nI_1, nI_pred, nI_m1, add_nIc, add_cnI, bd_v, reduceCtorEq, eqFcc, m1e0, m1e1, m1l0, m1g0, m2l0, m2g0, Int32.reduceLT, Int32.reduceLE, Int32.reduceAdd, Int32.reduceSub, Int32.reduceMul, eq_self, Bool.false_eq_true, b0]
        refine ih (nI (cnd F n v (k + 1) + 1), sI q.2 144 (cnd F n v (k + 1)) (nI (ob F n v (k + 1)))) ⟨by rw [ce], hb2, ⟨rivC_fr q1 (fun a h1 h2 => by simp (disch := omega) only [row_n]), ruC_fr q5.2.1 (by have := hc.2.2.2.2; simp (disch := omega) only [row_n]) (by have := hc.2.2.2.2; simp (disch := omega) only [row_n]), q5.2.2.1, fr_trans q5.2.2.2 (fr_sI (by unfold SC; omega))⟩, fun i => if i = cnd F n v (k + 1) then ob F n v (k + 1) else G i, fun i hi => ?_, fun y => ?_⟩
        · rw [ce] at hi
          by_cases e : i = cnd F n v (k + 1)
          · subst e
            show (sI q.2 144 (cnd F n v (k + 1)) (nI (ob F n v (k + 1)))).1 144 (cnd F n v (k + 1)) = nI (if cnd F n v (k + 1) = cnd F n v (k + 1) then ob F n v (k + 1) else _) ∧ (if cnd F n v (k + 1) = cnd F n v (k + 1) then ob F n v (k + 1) else _) < 100000
            rw [if_pos rfl]
            exact ⟨by simp (disch := omega) only [↓reduceIte, ic_t, ic_f, not_true_eq_false, not_false_eq_true, ↓lt_v, rdR, rdE, rdS, leT, leTc, leTd, leF, leFc, leFd, ltT, ltTc, ltTd, ltF, ltFc, ltFd, eqT, eqTc, eqTd, eqF, eqFc, eqFd, m1T, m1F, m1T', m1F', inb_nI, ix_nI, inb_c, ix_c, nI_1, nI_pred, nI_m1, add_nIc, add_cnI, bd_v, reduceCtorEq, eqFcc, m1e0, m1e1, m1l0, m1g0, m2l0, m2g0, Int32.reduceLT, Int32.reduceLE, Int32.reduceAdd, Int32.reduceSub, Int32.reduceMul, eq_self, Bool.false_eq_true], by omega⟩
          · have := h1 i (by omega)
            show (sI q.2 144 (cnd F n v (k + 1)) (nI (ob F n v (k + 1)))).1 144 i = nI (if i = cnd F n v (k + 1) then ob F n v (k + 1) else G i) ∧ (if i = cnd F n v (k + 1) then ob F n v (k + 1) else G i) < 100000
            rw [if_neg e]
            exact ⟨by simp (disch := omega) only [↓reduceIte, ic_t, ic_f, not_true_eq_false, not_false_eq_true, ↓lt_v, rdR, rdE, rdS, leT, leTc, leTd, leF, leFc, leFd, ltT, ltTc, ltTd, ltF, ltFc, ltFd, eqT, eqTc, eqTd, eqF, eqFc, eqFd, m1T, m1F, m1T', m1F', inb_nI, ix_nI, inb_c, ix_c, nI_1, nI_pred, nI_m1, add_nIc, add_cnI, bd_v, reduceCtorEq, eqFcc, m1e0, m1e1, m1l0, m1g0, m2l0, m2g0, Int32.reduceLT, Int32.reduceLE, Int32.reduceAdd, Int32.reduceSub, Int32.reduceMul, eq_self, Bool.false_eq_true]; exact this.1, this.2⟩
        · rw [ce]
          refine ⟨fun ⟨i, i1, i2⟩ => ?_, fun ⟨j, j1, j2⟩ => ?_⟩
          · have i2 : (if i = cnd F n v (k + 1) then ob F n v (k + 1) else G i) = y := i2
            by_cases e : i = cnd F n v (k + 1)
            · rw [if_pos e] at i2
              exact ⟨k + 1, by omega, i2⟩
            · rw [if_neg e] at i2
              obtain ⟨j, j1, j2⟩ := (h2 y).1 ⟨i, by omega, i2⟩
              exact ⟨j, by omega, j2⟩
          · by_cases e : j = k + 1
            · subst e
              exact ⟨cnd F n v (k + 1), by omega, (if_pos rfl).trans j2⟩
            · obtain ⟨i, i1, i2⟩ := (h2 y).2 ⟨j, by omega, j2⟩
              exact ⟨i, by omega, (if_neg (by omega)).trans i2⟩
  · intro fu s hs
    obtain ⟨b1, b2, b3, b4⟩ := hs
    have e : rq F n v = 0 := nx0 b2
    rw [e_X9_round_30, e]
    simp (disch := omega) only [↓reduceIte, ic_t, ic_f, not_true_eq_false, not_false_eq_true, ↓lt_v, rdR, rdE, rdS, leT, leTc, leTd, leF, leFc, leFd, ltT, ltTc, ltTd, ltF, ltFc, ltFd, eqT, eqTc, eqTd, eqF, eqFc, eqFd, m1T, m1F, m1T', m1F', inb_nI, ix_nI, inb_c, ix_c, nI_1, nI_pred, nI_m1, add_nIc, add_cnI, bd_v, reduceCtorEq, eqFcc, m1e0, m1e1, m1l0, m1g0, m2l0, m2g0, Int32.reduceLT, Int32.reduceLE, Int32.reduceAdd, Int32.reduceSub, Int32.reduceMul, eq_self, Bool.false_eq_true]
    exact ok_some (qc_none b3.2.2.2)
