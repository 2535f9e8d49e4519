/-! PURE: reading a rule: the whole -/
theorem i00 : (0 : Int32) ≤ 0 := by decide
theorem nq60 {c : Nat} (h : c ≠ 60) (hc : c < 100) : ¬ nI c = (60 : Int32) := by rw [show (60 : Int32) = nI 60 from rfl, nI_eq (by omega) (by omega)]; exact h
theorem nq62 {c : Nat} (h : c ≠ 62) (hc : c < 100) : ¬ nI c = (62 : Int32) := by rw [show (62 : Int32) = nI 62 from rfl, nI_eq (by omega) (by omega)]; exact h
theorem p_expr {a0 L ne D p : Nat} {f : Nat → Nat} {rc : Nat → Int32 → Mem → Option (Int32 × Mem)} (hR : a0 = 146 ∨ a0 = 150) (hf : ∀ i, i < L → f i < 256) (hS : ∀ p, p ≤ min L 40 → PSp a0 L f p ne (fX6_readSum rc a0 (nI ne)) (fX10_readsRank D 1)) (hp : p ≤ min L 40) : PSp a0 L f p ne (fX6_readExpression_b rc a0 (nI ne)) (fX10_readsRank (D + 1) 0) := by
  have hFU : 2000 < FU := FU_big
  obtain ⟨ok1, e1, V1, b1, i1, i2, i3, iC, iR⟩ := hS p hp
  have refA : ∀ (s : Mem) (Q : Int32 × Mem → Prop), Ok ((fX10_readsRank D 1 s).bind fun q2 => ic (q2.1 = 0) (some (0, q2.2)) (fX10_readsRank_24 (fX10_readsRank D) FU 0 1 q2.2)) Q → Ok (fX10_readsRank (D + 1) 0 s) Q := by
    intro s Q h
    rw [e_X10_readsRank, e_X10_readsRank_b, ic_neg i03, i0p]
    exact h
  cases hok1 : ok1
  · refine ⟨false, e1, fun _ => 0, false, i1, i2, (fun q => by cases q), fun M cl b hc => ?_, fun s rl hs => ?_⟩
    · show Ok (fX6_readExpression_b rc a0 (nI ne) M) _
      rw [e_X6_readExpression_b]
      refine ok_call (iC M cl b hc) (fun r h => ?_)
      obtain ⟨h1, h2, cl', bb, h3, _⟩ := h
      rw [h1, hok1, ic_pos (show bI false = 0 from rfl)]
      exact ok_some ⟨rfl, h2, cl', bb, h3, fun q => by cases q⟩
    · refine refA s _ ?_
      refine ok_call (iR s rl hs) (fun r h => ?_)
      obtain ⟨h1, h2, rl', ne', h3, h4, h5, h6, h7, _⟩ := h
      rw [h1, hok1, ic_pos (show bI false = 0 from rfl)]
      exact ok_some ⟨rfl, h2, rl', ne', h3, h4, h5, h6, h7, fun q => by cases q⟩
  · obtain ⟨v1, v2⟩ := i3 hok1
    by_cases hsg : e1 < min L 40 ∧ (f e1 = 60 ∨ f e1 = 62 ∨ f e1 = 61)
    · obtain ⟨hpm, hc3⟩ := hsg
      have opc : isOp (f e1) := by rcases hc3 with q | q | q <;> rw [q] <;> unfold isOp <;> omega
      have hlc : f e1 < 100 := by omega
      obtain ⟨ok2, e2, W, b2, j1, j2, j3, jC, jR⟩ := hS (e1 + 1) (by omega)
      have clsB : ∀ (M : Mem) (cl : Nat) (b : Bool) (Q : Int32 × Mem → Prop), CSt a0 L f p cl b M → (∀ r cl' bb r2, CPo a0 L f p cl b true e1 V1 b1 M r → CSt a0 L f e1 cl' bb r.2 → (cl ≤ p → bb = (b || b1) ∧ cl' + p ≤ cl + e1 ∧ (∀ i, i < cl → r.2.1 (a0 + 1) i = M.1 (a0 + 1) i) ∧ CSeg a0 (r.2.1 (a0 + 1)) cl cl' V1) → CPo a0 L f (e1 + 1) cl' bb ok2 e2 W b2 (sI r.2 a0 6 (nI (e1 + 1))) r2 → Ok (ic (r2.1 = 0) (some (0, r2.2)) ((fX6_emit a0 (-(nI (f e1))) r2.2).bind fun q14 => some (1, q14))) Q) → Ok (fX6_readExpression_b rc a0 (nI ne) M) Q := by
        intro M cl b Q hc h
        rw [e_X6_readExpression_b]
        refine ok_call (iC M cl b hc) (fun r g => ?_)
        rw [hok1] at g
        have g' := g
        obtain ⟨h1, h2, cl', bb, h3, h4⟩ := g'
        have pk := c_peek h3 (by omega)
        rw [if_pos hpm] at pk
        have h6 := h3.1
        have go : Ok (fX6_readExpression_35 rc a0 (nI ne) (nI (f e1)) r.2) Q := by
          rw [e_X6_readExpression_35, lt_v, h6, add_nIc]
          exact ok_call (jC _ cl' bb (cst_pos hR h3)) (fun r2 k => h r cl' bb r2 g h3 (h4 rfl) k)
        rw [h1, ic_neg (show ¬ bI true = 0 from one_ne), pk, bd_v]
        rcases hc3 with q | q | q
        · rw [ic_pos (show (nI (f e1), r.2).1 = 60 by rw [q]; rfl)]
          exact go
        · rw [ic_neg (show ¬ (nI (f e1), r.2).1 = 60 by rw [q]; exact nq60 (by omega) (by omega)), ic_pos (show (nI (f e1), r.2).1 = 62 by rw [q]; rfl)]
          exact go
        · rw [ic_neg (show ¬ (nI (f e1), r.2).1 = 60 by rw [q]; exact nq60 (by omega) (by omega)), ic_neg (show ¬ (nI (f e1), r.2).1 = 62 by rw [q]; exact nq62 (by omega) (by omega)), ic_pos (show (nI (f e1), r.2).1 = 61 by rw [q]; rfl)]
          exact go
      have refB : ∀ (s : Mem) (rl : Nat) (Q : Int32 × Mem → Prop), RSt (min L 40) f p rl ne s → (∀ r rl' r2, FrR (fun a => a = 176) S3 s r → (rl' + p ≤ rl + e1 ∧ rl ≤ rl') → (∀ i, i < rl → r.1 176 i = s.1 176 i) → RSeg (r.1 176) rl rl' V1 → RPo (min L 40) f (e1 + 1) rl' ne ok2 e2 W (sI r 169 9 (nI (e1 + 1))) r2 → Ok (ic (r2.1 = 0) (some (0, r2.2)) ((fX10_codes (nI (2000 + acN (f e1))) r2.2).bind fun q19 => some (1, q19))) Q) → Ok (fX10_readsRank (D + 1) 0 s) Q := by
        intro s rl Q hs h
        refine refA s _ ?_
        have hr := hs.2.2.2
        refine ok_call (iR s rl hs) (fun r g => ?_)
        obtain ⟨h1, h2, rl', ne', h3, h4, h5, h6, h7, h8⟩ := g
        obtain ⟨k1, k2⟩ := h8 hok1
        have q0 : RSt (min L 40) f (e1 + 1) rl' ne (sI r.2 169 9 (nI (e1 + 1))) := ⟨atR_set h3 (b := e1 + 1) (by omega), by simp (disch := omega) only [↓reduceIte, ic_t, ic_f, not_true_eq_false, not_false_eq_true, ↓lt_v, rdR, rdE, rdS, leT, leTc, leTd, leF, leFc, leFd, ltT, ltTc, ltTd, ltF, ltFc, ltFd, eqT, eqTc, eqTd, eqF, eqFc, eqFd, m1T, m1F, m1T', m1F', inb_nI, ix_nI, inb_c, ix_c, nI_1, nI_pred, nI_m1, add_nIc, add_cnI, bd_v, reduceCtorEq, eqFcc, m1e0, m1e1, m1l0, m1g0, m2l0, m2g0, Int32.reduceLT, Int32.reduceLE, Int32.reduceAdd, Int32.reduceSub, Int32.reduceMul, eq_self, Bool.false_eq_true]; exact h4, by simp (disch := omega) only [↓reduceIte, ic_t, ic_f, not_true_eq_false, not_false_eq_true, ↓lt_v, rdR, rdE, rdS, leT, leTc, leTd, leF, leFc, leFd, ltT, ltTc, ltTd, ltF, ltFc, ltFd, eqT, eqTc, eqTd, eqF, eqFc, eqFd, m1T, m1F, m1T', m1F', inb_nI, ix_nI, inb_c, ix_c, nI_1, nI_pred, nI_m1, add_nIc, add_cnI, bd_v, reduceCtorEq, eqFcc, m1e0, m1e1, m1l0, m1g0, m2l0, m2g0, Int32.reduceLT, Int32.reduceLE, Int32.reduceAdd, Int32.reduceSub, Int32.reduceMul, eq_self, Bool.false_eq_true]; rw [h5, k1], by omega⟩
        have ht := r_takesOf1 h3
        rw [h1, hok1, ic_neg (show ¬ bI true = 0 from one_ne)]
        have hFU' := hFU
        generalize FU = fu at hFU' ⊢
        obtain ⟨fu, rfl⟩ : ∃ m, fu = m + 1 + 1 := ⟨fu - 2, by omega⟩
        have go : ∀ a : Nat, a ≤ 2 → a = acN (f e1) → fX10_takesOf 1 r.2 = some (nI a, sI r.2 169 9 (nI (e1 + 1))) → Ok (fX10_readsRank_24 (fX10_readsRank D) (fu + 1 + 1) 0 1 r.2) Q := by
          intro a ha ea ht
          rw [e_X10_readsRank_24, ic_neg one_ne, ic_pos rfl, e_X10_readsRank_50, ht, bd_v, ic_pos (show (0 : Int32) ≤ (nI a, sI r.2 169 9 (nI (e1 + 1))).1 from nI_pos' (by omega)), i0p]
          refine ok_call (jR _ rl' q0) (fun r2 k => ?_)
          have := h r.2 rl' r2 h2 h6 h7 k2 k
          by_cases c : r2.1 = 0
          · rw [ic_pos c] at this ⊢
            exact this
          · rw [ic_neg c] at this ⊢
            rw [ic_pos rfl, e_X10_readsRank_96]
            simp only [ic_pos i00, e_X10_readsRank_24]
            rw [show (2000 : Int32) + nI a + 0 = nI (2000 + acN (f e1)) by rw [show (2000 : Int32) = nI 2000 from rfl, nI_add, Int32.add_zero, ea]]
            simp only [ic_pos]
            exact this
        rcases hc3 with q | q | q
        · rw [if_pos ⟨hpm, q⟩] at ht
          exact go 0 (by omega) (by rw [q]; rfl) ht
        · rw [if_neg (fun w => by rw [q] at w; exact absurd w.2 (by omega)), if_pos ⟨hpm, q⟩] at ht
          exact go 1 (by omega) (by rw [q]; rfl) ht
        · rw [if_neg (fun w => by rw [q] at w; exact absurd w.2 (by omega)), if_neg (fun w => by rw [q] at w; exact absurd w.2 (by omega)), if_pos ⟨hpm, q⟩] at ht
          exact go 2 (by omega) (by rw [q]; rfl) ht
      cases hok2 : ok2
      · refine ⟨false, e2, fun _ => 0, false, by omega, j2, (fun q => by cases q), fun M cl b hc => ?_, fun s rl hs => ?_⟩
        · refine clsB M cl b _ hc (fun r cl' bb r2 g1 g2 g3 g4 => ?_)
          obtain ⟨h1, h2, cl2, bb2, h3, _⟩ := g4
          rw [h1, hok2, ic_pos (show bI false = 0 from rfl)]
          exact ok_some ⟨rfl, fr_trans g1.2.1 (fr_trans (fr_sI (Or.inl rfl)) h2), cl2, bb2, h3, fun q => by cases q⟩
        · have hr := hs.2.2.2
          refine refB s rl _ hs (fun r rl' r2 g1 g2 g3 g4 g5 => ?_)
          obtain ⟨h1, h2, rl2, ne2, h3, h4, h5, h6, h7, _⟩ := g5
          rw [h1, hok2, ic_pos (show bI false = 0 from rfl)]
          exact ok_some ⟨rfl, frR_trans g1 (frR_trans (frR_sI (by omega) (by unfold S3; omega)) h2), rl2, ne2, h3, h4, h5, by omega, fun i hi => by rw [h7 i (by omega), ← g3 i hi]; simp (disch := omega) only [↓reduceIte, ic_t, ic_f, not_true_eq_false, not_false_eq_true, ↓lt_v, rdR, rdE, rdS, leT, leTc, leTd, leF, leFc, leFd, ltT, ltTc, ltTd, ltF, ltFc, ltFd, eqT, eqTc, eqTd, eqF, eqFc, eqFd, m1T, m1F, m1T', m1F', inb_nI, ix_nI, inb_c, ix_c, nI_1, nI_pred, nI_m1, add_nIc, add_cnI, bd_v, reduceCtorEq, eqFcc, m1e0, m1e1, m1l0, m1g0, m2l0, m2g0, Int32.reduceLT, Int32.reduceLE, Int32.reduceAdd, Int32.reduceSub, Int32.reduceMul, eq_self, Bool.false_eq_true], fun q => by cases q⟩
      · obtain ⟨w1, w2⟩ := j3 hok2
        refine ⟨true, e2, fun th => opv (f e1) (V1 th) (W th), b1 || b2, by omega, j2, fun _ => ⟨vok_op v1 w1, by omega⟩, fun M cl b hc => ?_, fun s rl hs => ?_⟩
        · refine clsB M cl b _ hc (fun r cl' bb r2 g1 g2 g3 g4 => ?_)
          obtain ⟨h1, h2, cl2, bb2, h3, h4⟩ := g4
          rw [h1, hok2, ic_neg (show ¬ bI true = 0 from one_ne)]
          refine ok_call (c_emit hR h3) (fun M2 k => ?_)
          obtain ⟨k1, cl3, k2, k3⟩ := k
          refine ok_some ⟨rfl, fr_trans g1.2.1 (fr_trans (fr_trans (fr_sI (Or.inl rfl)) h2) k1), cl3, bb2, k2, fun _ hcl => ?_⟩
          obtain ⟨n1, n2, n3, n4⟩ := g3 hcl
          obtain ⟨o1, o2, o3, o4⟩ := h4 hok2 (by omega)
          obtain ⟨m1, m2, m3⟩ := k3 (by omega)
          have hl1 := n4.1
          have hl2 := o4.1
          have em : ∀ l, l < cl' → M2.1 (a0 + 1) l = r.2.1 (a0 + 1) l := fun l hl => by rw [m3 l (by omega), o3 l hl, row_n (by omega)]
          have s1 : CSeg a0 (M2.1 (a0 + 1)) cl cl' V1 := cseg_congr n4 (fun l l1 l2 => em l l2)
          have s2 : CSeg a0 (M2.1 (a0 + 1)) cl' cl2 W := cseg_congr o4 (fun l l1 l2 => m3 l l2)
          have s3 := cseg_bin opc s1 s2 m2
          rw [← m1] at s3
          exact ⟨by rw [o1, n1, Bool.or_assoc], by omega, fun l hl => by rw [em l (by omega)]; exact n3 l hl, s3⟩
        · have hr := hs.2.2.2
          refine refB s rl _ hs (fun r rl' r2 g1 g2 g3 g4 g5 => ?_)
          obtain ⟨h1, h2, rl2, ne2, h3, h4, h5, h6, h7, h8⟩ := g5
          obtain ⟨k1, k2⟩ := h8 hok2
          rw [h1, hok2, ic_neg (show ¬ bI true = 0 from one_ne)]
          refine ok_call (r_codes h3 h4 h5 (by omega)) (fun s2 w => ?_)
          obtain ⟨w1, w2, w3, w4, w5, w6⟩ := w
          have em : ∀ l, l < rl' → s2.1 176 l = r.1 176 l := fun l hl => by rw [w6 l (by omega), h7 l hl]; simp (disch := omega) only [↓reduceIte, ic_t, ic_f, not_true_eq_false, not_false_eq_true, ↓lt_v, rdR, rdE, rdS, leT, leTc, leTd, leF, leFc, leFd, ltT, ltTc, ltTd, ltF, ltFc, ltFd, eqT, eqTc, eqTd, eqF, eqFc, eqFd, m1T, m1F, m1T', m1F', inb_nI, ix_nI, inb_c, ix_c, nI_1, nI_pred, nI_m1, add_nIc, add_cnI, bd_v, reduceCtorEq, eqFcc, m1e0, m1e1, m1l0, m1g0, m2l0, m2g0, Int32.reduceLT, Int32.reduceLE, Int32.reduceAdd, Int32.reduceSub, Int32.reduceMul, eq_self, Bool.false_eq_true]
          refine ok_some ⟨rfl, frR_trans g1 (frR_trans (frR_trans (frR_sI (by omega) (by unfold S3; omega)) h2) w1), rl2 + 1, ne, w2, w3, by rw [w4, k1], by omega, fun i hi => by rw [em i (by omega)]; exact g3 i hi, fun _ => ⟨rfl, ?_⟩⟩
          have s1 : RSeg (s2.1 176) rl rl' V1 := rseg_congr g4 (fun l l1 l2 => em l l2)
          have s2' : RSeg (s2.1 176) rl' rl2 W := rseg_congr k2 (fun l l1 l2 => w6 l l2)
          exact rseg_bin opc s1 s2' w5
    · have hno : ∀ c, c = 60 ∨ c = 62 ∨ c = 61 → ¬ (e1 < min L 40 ∧ f e1 = c) := fun c hc q => hsg ⟨q.1, by rw [q.2]; exact hc⟩
      refine ⟨true, e1, V1, b1, i1, i2, fun _ => ⟨v1, v2⟩, fun M cl b hc => ?_, fun s rl hs => ?_⟩
      · show Ok (fX6_readExpression_b rc a0 (nI ne) M) _
        rw [e_X6_readExpression_b]
        refine ok_call (iC M cl b hc) (fun r h => ?_)
        rw [hok1] at h
        have h' := h
        obtain ⟨h1, h2, cl', bb, h3, h4⟩ := h'
        have pk := c_peek h3 (by omega)
        have nn : ∀ c, c < 100 → (c = 60 ∨ c = 62 ∨ c = 61) → ¬ (if e1 < min L 40 then nI (f e1) else -1) = nI c := by
          intro c hc hcc
          by_cases q : e1 < min L 40
          · rw [if_pos q, nI_eq (by have := hf e1 (by omega); omega) (by omega)]
            exact fun w => hno c hcc ⟨q, w⟩
          · rw [if_neg q]
            intro w
            have : (-1 : Int32) < 0 := m1lt0
            rw [w] at this
            exact nI_pos (by omega) this
        rw [h1, ic_neg (show ¬ bI true = 0 from one_ne), pk, bd_v, ic_neg (show ¬ (if e1 < min L 40 then nI (f e1) else -1) = (60 : Int32) from nn 60 (by omega) (by omega)), ic_neg (show ¬ (if e1 < min L 40 then nI (f e1) else -1) = (62 : Int32) from nn 62 (by omega) (by omega)), ic_neg (show ¬ (if e1 < min L 40 then nI (f e1) else -1) = (61 : Int32) from nn 61 (by omega) (by omega))]
        exact ok_some ⟨rfl, h2, cl', bb, h3, h4⟩
      · refine refA s _ ?_
        refine ok_call (iR s rl hs) (fun r g => ?_)
        obtain ⟨h1, h2, rl', ne', h3, h4, h5, h6, h7, h8⟩ := g
        have ht := r_takesOf1 h3
        rw [if_neg (hno 60 (by omega)), if_neg (hno 62 (by omega)), if_neg (hno 61 (by omega))] at ht
        rw [h1, hok1, ic_neg (show ¬ bI true = 0 from one_ne)]
        have hFU' := hFU
        generalize FU = fu at hFU' ⊢
        obtain ⟨fu, rfl⟩ : ∃ m, fu = m + 1 := ⟨fu - 1, by omega⟩
        rw [e_X10_readsRank_24, ic_neg one_ne, ic_pos rfl, e_X10_readsRank_50, ht, bd_v, ic_neg (show ¬ (0 : Int32) ≤ ((-1 : Int32), r.2).1 by show ¬ (0 : Int32) ≤ -1; decide)]
        exact ok_some ⟨rfl, h2, rl', ne', h3, h4, h5, h6, h7, fun _ => h8 hok1⟩
theorem p_all {a0 L : Nat} {f : Nat → Nat} (hR : a0 = 146 ∨ a0 = 150) (hf : ∀ i, i < L → f i < 256) : ∀ k ne, ne + k = 4 → ∀ p, p ≤ min L 40 → PSp a0 L f p ne (fX6_readExpression (k + 2) a0 (nI ne)) (fX10_readsRank (4 * k + 5) 0) := by
  have lev : ∀ (rc : Nat → Int32 → Mem → Option (Int32 × Mem)) (D ne : Nat), ne ≤ 4 → (ne < 4 → ∀ p', p' ≤ min L 40 → PSp a0 L f p' (ne + 1) (rc a0 (nI (ne + 1))) (fX10_readsRank D 0)) → ∀ p, p ≤ min L 40 → PSp a0 L f p ne (fX6_readExpression_b rc a0 (nI ne)) (fX10_readsRank (D + 1 + 1 + 1 + 1) 0) := by
    intro rc D ne hne hI p hp
    exact p_expr hR hf (fun p hp => p_sum hR hf (fun p hp => p_product hR hf (fun p hp => p_signed hR hf (fun p hp => p_atom hR hf hp hne hI) hp) hp) hp) hp
  intro k
  induction k with
  | zero =>
    intro ne hne p hp
    have h := lev (fX6_readExpression 1) 1 ne (by omega) (fun q => absurd q (by omega)) p hp
    obtain ⟨ok, e, V, b', i1, i2, i3, iC, iR⟩ := h
    exact ⟨ok, e, V, b', i1, i2, i3, fun M cl b hc => by rw [e_X6_readExpression]; exact iC M cl b hc, iR⟩
  | succ k ih =>
    intro ne hne p hp
    have h := lev (fX6_readExpression (k + 2)) (4 * k + 5) ne (by omega) (fun q p' hp' => ih (ne + 1) (by omega) p' hp') p hp
    obtain ⟨ok, e, V, b', i1, i2, i3, iC, iR⟩ := h
    refine ⟨ok, e, V, b', i1, i2, i3, fun M cl b hc => by rw [e_X6_readExpression]; exact iC M cl b hc, ?_⟩
    rw [show 4 * (k + 1) + 5 = 4 * k + 5 + 1 + 1 + 1 + 1 by omega]
    exact iR
