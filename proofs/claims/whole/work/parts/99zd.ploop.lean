/-! PURE: reading a rule: products, sums -/
def LCo (a0 L : Nat) (f : Nat → Nat) (p1 cl1 : Nat) (b ok : Bool) (e : Nat) (V V' : (Nat → Int32) → Int32) (b' : Bool) (M : Mem) (r : Int32 × Mem) : Prop := r.1 = bI ok ∧ Fr (fun a => a = a0 ∨ a = a0 + 1) M r.2 ∧ ∃ cl' bb, CSt a0 L f e cl' bb r.2 ∧ (ok = true → cl1 ≤ p1 → ∀ cl0, CSeg a0 (M.1 (a0 + 1)) cl0 cl1 V → bb = (b || b') ∧ cl' + p1 ≤ cl1 + e ∧ (∀ i, i < cl0 → r.2.1 (a0 + 1) i = M.1 (a0 + 1) i) ∧ CSeg a0 (r.2.1 (a0 + 1)) cl0 cl' V')
def LRo (m : Nat) (f : Nat → Nat) (p1 rl1 ne : Nat) (ok : Bool) (e : Nat) (V V' : (Nat → Int32) → Int32) (s : Mem) (r : Int32 × Mem) : Prop := r.1 = bI ok ∧ FrR (fun a => a = 176) S3 s r.2 ∧ ∃ rl' ne', AtR e m f r.2 ∧ r.2.1 169 17 = nI rl' ∧ r.2.1 169 11 = nI ne' ∧ (rl' + p1 ≤ rl1 + e ∧ rl1 ≤ rl') ∧ (∀ i, i < rl1 → r.2.1 176 i = s.1 176 i) ∧ (ok = true → ne' = ne ∧ ∀ rl0, RSeg (s.1 176) rl0 rl1 V → RSeg (r.2.1 176) rl0 rl' V')
theorem vok_op {V W : (Nat → Int32) → Int32} {b b' : Bool} {s : Nat} (h : VOk V b) (h' : VOk W b') : VOk (fun th => opv s (V th) (W th)) (b || b') := by
  refine ⟨fun hb th th' h0 h1 h3 h6 => ?_, fun th th' hh => ?_⟩
  · rw [Bool.or_eq_false_iff] at hb
    show opv s (V th) (W th) = opv s (V th') (W th')
    rw [h.1 hb.1 th th' h0 h1 h3 h6, h'.1 hb.2 th th' h0 h1 h3 h6]
  · show opv s (V th) (W th) = opv s (V th') (W th')
    rw [h.2 th th' hh, h'.2 th th' hh]
theorem rseg_keep {c c' : Nat → Int32} {i j k : Nat} {V : (Nat → Int32) → Int32} (h : RSeg c i j V) (hk : j ≤ k) (e : ∀ l, l < k → c' l = c l) : RSeg c' i j V := rseg_congr h (fun l l1 l2 => e l (by omega))
theorem p_loop {a0 L ne c0 c1 off j : Nat} {f : Nat → Nat} {Sub SubR : Mem → Option (Int32 × Mem)} {G8 : Nat → Int32 → Int32 → Mem → Option (Int32 × Mem)} {G24 : Nat → Mem → Option (Int32 × Mem)} (hR : a0 = 146 ∨ a0 = 150) (hf : ∀ i, i < L → f i < 256)
    (hj : (j = 2 ∧ c0 = 43 ∧ c1 = 45) ∨ (j = 3 ∧ c0 = 42 ∧ c1 = 47)) (hoff : acN c0 = 0 + off ∧ acN c1 = 1 + off)
    (hE : ∀ (n : Nat) (x2 x3 : Int32) (M : Mem), G8 (n + 1) x2 x3 M = ic (40 ≤ x3) (ic (x2 = 0 ∨ x2 = 1) (some (x2, M)) none) (ic (x2 = 0) (ic (x2 = 0 ∨ x2 = 1) (some (x2, M)) none) ((fX6_peek a0 M).bind fun q7 => ic (q7.1 = nI c0) (lt (sI q7.2 a0 6 ((q7.2.1 a0 6) + 1)) fun M11 => (Sub M11).bind fun q13 => (fX6_emit a0 (-q7.1) q13.2).bind fun q15 => lt (x3 + 1) fun y17 => G8 n q13.1 y17 q15) (ic (q7.1 = nI c1) (lt (sI q7.2 a0 6 ((q7.2.1 a0 6) + 1)) fun M11 => (Sub M11).bind fun q13 => (fX6_emit a0 (-q7.1) q13.2).bind fun q15 => lt (x3 + 1) fun y17 => G8 n q13.1 y17 q15) (some (1, q7.2))))))
    (hER : ∀ (n : Nat) (M : Mem), G24 (n + 1) M = (fX10_takesOf j M).bind fun q11 => ic (0 ≤ q11.1) ((SubR q11.2).bind fun q14 => ic (q14.1 = 0) (some (0, q14.2)) ((fX10_codes (2000 + q11.1 + nI off) q14.2).bind fun q19 => G24 n q19)) (some (1, q11.2)))
    (hS : ∀ p, p ≤ min L 40 → PSp a0 L f p ne Sub SubR) : ∀ d p1 (V : (Nat → Int32) → Int32) (b1 : Bool), p1 ≤ min L 40 → min L 40 - p1 ≤ d → VOk V b1 → ∃ (ok : Bool) (e : Nat) (V' : (Nat → Int32) → Int32) (b' : Bool), p1 ≤ e ∧ e ≤ min L 40 ∧ (ok = true → VOk V' (b1 || b')) ∧
      (∀ (M : Mem) (cl1 : Nat) (b : Bool) (fu i : Nat), i ≤ p1 → d + 2 ≤ fu → CSt a0 L f p1 cl1 b M → Ok (G8 fu 1 (nI i) M) (LCo a0 L f p1 cl1 b ok e V V' b' M)) ∧
      (∀ (s : Mem) (rl1 fu : Nat), d + 2 ≤ fu → RSt (min L 40) f p1 rl1 ne s → Ok (G24 fu s) (LRo (min L 40) f p1 rl1 ne ok e V V' s)) := by
  have lt100 : c0 < 100 ∧ c1 < 100 ∧ c0 ≠ c1 ∧ isOp c0 ∧ isOp c1 ∧ off ≤ 6 := by
    rcases hj with ⟨_, e2, e3⟩ | ⟨_, e2, e3⟩ <;> subst e2 <;> subst e3 <;> refine ⟨by omega, by omega, by omega, by unfold isOp; omega, by unfold isOp; omega, ?_⟩
    · have : acN 43 = 3 := rfl
      omega
    · have : acN 42 = 5 := rfl
      omega
  obtain ⟨lc0, lc1, ne01, op0, op1, loff⟩ := lt100
  have nosign : ∀ d p1 (V : (Nat → Int32) → Int32) (b1 : Bool), p1 ≤ min L 40 → VOk V b1 → (p1 < min L 40 → f p1 ≠ c0 ∧ f p1 ≠ c1) → ∃ (ok : Bool) (e : Nat) (V' : (Nat → Int32) → Int32) (b' : Bool), p1 ≤ e ∧ e ≤ min L 40 ∧ (ok = true → VOk V' (b1 || b')) ∧
      (∀ (M : Mem) (cl1 : Nat) (b : Bool) (fu i : Nat), i ≤ p1 → d + 2 ≤ fu → CSt a0 L f p1 cl1 b M → Ok (G8 fu 1 (nI i) M) (LCo a0 L f p1 cl1 b ok e V V' b' M)) ∧
      (∀ (s : Mem) (rl1 fu : Nat), d + 2 ≤ fu → RSt (min L 40) f p1 rl1 ne s → Ok (G24 fu s) (LRo (min L 40) f p1 rl1 ne ok e V V' s)) := by
    intro d p1 V b1 hp hV hno
    refine ⟨true, p1, V, false, Nat.le_refl _, hp, fun _ => by rw [Bool.or_false]; exact hV, fun M cl1 b fu i hi hfu hc => ?_, fun s rl1 fu hfu hs => ?_⟩
    · obtain ⟨fu, rfl⟩ : ∃ m, fu = m + 1 := ⟨fu - 1, by omega⟩
      have done : Ok (some ((1 : Int32), M)) (LCo a0 L f p1 cl1 b true p1 V V false M) := ok_some ⟨rfl, fr_rfl, cl1, b, hc, fun _ _ cl0 hseg => ⟨by rw [Bool.or_false], by omega, fun i hi => rfl, hseg⟩⟩
      rw [hE]
      by_cases c40 : 40 ≤ i
      · rw [ic_pos (show 40 ≤ nI i by rw [show (40 : Int32) = nI 40 from rfl, le_nI (by omega) (by omega)]; exact c40), ic_pos (Or.inr rfl)]
        exact done
      · have pk := c_peek hc (by omega)
        have nn : ∀ c, c < 100 → (p1 < min L 40 → f p1 ≠ c) → ¬ (if p1 < min L 40 then nI (f p1) else -1) = nI c := by
          intro c hc hne
          by_cases q : p1 < min L 40
          · rw [if_pos q, nI_eq (by have := hf p1 (by omega); omega) (by omega)]
            exact hne q
          · rw [if_neg q]
            intro h
            have : (-1 : Int32) < 0 := m1lt0
            rw [h] at this
            exact nI_pos (by omega) this
        rw [ic_neg (show ¬ 40 ≤ nI i by rw [show (40 : Int32) = nI 40 from rfl, le_nI (by omega) (by omega)]; exact c40), ic_neg one_ne, pk, bd_v, ic_neg (nn c0 lc0 (fun q => (hno q).1)), ic_neg (nn c1 lc1 (fun q => (hno q).2))]
        exact done
    · obtain ⟨fu, rfl⟩ : ∃ m, fu = m + 1 := ⟨fu - 1, by omega⟩
      obtain ⟨hAt, h17, h11, hr⟩ := hs
      have ht := r_takesOf2 hj hAt
      rw [if_neg (fun q => (hno q.1).1 q.2), if_neg (fun q => (hno q.1).2 q.2)] at ht
      rw [hER, ht, bd_v, ic_neg (show ¬ (0 : Int32) ≤ ((-1 : Int32), s).1 by show ¬ (0 : Int32) ≤ -1; decide)]
      exact ok_some ⟨rfl, frR_rfl, rl1, ne, hAt, h17, h11, by omega, fun i hi => rfl, fun _ => ⟨rfl, fun rl0 h => h⟩⟩
  intro d
  induction d with
  | zero => exact fun p1 V b1 hp hd hV => nosign 0 p1 V b1 hp hV (fun q => by omega)
  | succ d ih =>
    intro p1 V b1 hp hd hV
    by_cases hsg : p1 < min L 40 ∧ (f p1 = c0 ∨ f p1 = c1)
    · obtain ⟨hpm, hc01⟩ := hsg
      have opc : isOp (f p1) := by rcases hc01 with q | q <;> rw [q] <;> assumption
      have hlc : f p1 < 100 := by rcases hc01 with q | q <;> rw [q] <;> assumption
      obtain ⟨ok2, e2, W, b2, i1, i2, i3, iC, iR⟩ := hS (p1 + 1) (by omega)
      have clsA : ∀ (M : Mem) (cl1 : Nat) (b : Bool) (fu i : Nat) (Q : Int32 × Mem → Prop), i ≤ p1 → CSt a0 L f p1 cl1 b M → (∀ r, CPo a0 L f (p1 + 1) cl1 b ok2 e2 W b2 (sI M a0 6 (nI (p1 + 1))) r → Ok ((fX6_emit a0 (-(nI (f p1))) r.2).bind fun q15 => G8 fu r.1 (nI (i + 1)) q15) Q) → Ok (G8 (fu + 1) 1 (nI i) M) Q := by
        intro M cl1 b fu i Q hi hc h
        have pk := c_peek hc (by omega)
        rw [if_pos hpm] at pk
        have h6 := hc.1
        have go : Ok (lt (sI M a0 6 ((M.1 a0 6) + 1)) fun M11 => (Sub M11).bind fun q13 => (fX6_emit a0 (-(nI (f p1))) q13.2).bind fun q15 => lt (nI i + 1) fun y17 => G8 fu q13.1 y17 q15) Q := by
          rw [lt_v, h6, add_nIc]
          refine ok_call (iC _ cl1 b (cst_pos hR hc)) (fun r hr => ?_)
          have := h r hr
          rw [← add_nIc i 1] at this
          exact this
        rw [hE, ic_neg (show ¬ 40 ≤ nI i by rw [show (40 : Int32) = nI 40 from rfl, le_nI (by omega) (by omega)]; omega), ic_neg one_ne, pk, bd_v]
        rcases hc01 with q | q
        · rw [ic_pos (show (nI (f p1), M).1 = nI c0 by rw [← q])]
          exact go
        · rw [ic_neg (show ¬ (nI (f p1), M).1 = nI c0 by show ¬ nI (f p1) = nI c0; rw [nI_eq (by omega) (by omega)]; omega), ic_pos (show (nI (f p1), M).1 = nI c1 by rw [← q])]
          exact go
      have refA : ∀ (s : Mem) (rl1 fu : Nat) (Q : Int32 × Mem → Prop), RSt (min L 40) f p1 rl1 ne s → (∀ r, RPo (min L 40) f (p1 + 1) rl1 ne ok2 e2 W (sI s 169 9 (nI (p1 + 1))) r → Ok (ic (r.1 = 0) (some (0, r.2)) ((fX10_codes (nI (2000 + acN (f p1))) r.2).bind fun q19 => G24 fu q19)) Q) → Ok (G24 (fu + 1) s) Q := by
        intro s rl1 fu Q hs h
        obtain ⟨hAt, h17, h11, hr⟩ := hs
        have ht := r_takesOf2 hj hAt
        have q0 : RSt (min L 40) f (p1 + 1) rl1 ne (sI s 169 9 (nI (p1 + 1))) := ⟨atR_set hAt (b := p1 + 1) (by omega), by simp (disch := omega) only [↓reduceIte, ic_t, ic_f, not_true_eq_false, not_false_eq_true, ↓lt_v, rdR, rdE, rdS, leT, leTc, leTd, leF, leFc, leFd, ltT, ltTc, ltTd, ltF, ltFc, ltFd, eqT, eqTc, eqTd, eqF, eqFc, eqFd, m1T, m1F, m1T', m1F', inb_nI, ix_nI, inb_c, ix_c, nI_1, nI_pred, nI_m1, add_nIc, add_cnI, bd_v, reduceCtorEq, eqFcc, m1e0, m1e1, m1l0, m1g0, m2l0, m2g0, Int32.reduceLT, Int32.reduceLE, Int32.reduceAdd, Int32.reduceSub, Int32.reduceMul, eq_self, Bool.false_eq_true]; exact h17, by simp (disch := omega) only [↓reduceIte, ic_t, ic_f, not_true_eq_false, not_false_eq_true, ↓lt_v, rdR, rdE, rdS, leT, leTc, leTd, leF, leFc, leFd, ltT, ltTc, ltTd, ltF, ltFc, ltFd, eqT, eqTc, eqTd, eqF, eqFc, eqFd, m1T, m1F, m1T', m1F', inb_nI, ix_nI, inb_c, ix_c, nI_1, nI_pred, nI_m1, add_nIc, add_cnI, bd_v, reduceCtorEq, eqFcc, m1e0, m1e1, m1l0, m1g0, m2l0, m2g0, Int32.reduceLT, Int32.reduceLE, Int32.reduceAdd, Int32.reduceSub, Int32.reduceMul, eq_self, Bool.false_eq_true]; exact h11, by omega⟩
        have go : ∀ a : Nat, a ≤ 1 → a + off = acN (f p1) → fX10_takesOf j s = some (nI a, sI s 169 9 (nI (p1 + 1))) → Ok (G24 (fu + 1) s) Q := by
          intro a ha ea ht
          rw [hER, ht, bd_v, ic_pos (show (0 : Int32) ≤ (nI a, sI s 169 9 (nI (p1 + 1))).1 from nI_pos' (by omega))]
          refine ok_call (iR _ rl1 q0) (fun r hr => ?_)
          have := h r hr
          rw [show nI (2000 + acN (f p1)) = 2000 + nI a + nI off by rw [show (2000 : Int32) = nI 2000 from rfl, nI_add, nI_add, ← ea, Nat.add_assoc]] at this
          exact this
        rcases hc01 with q | q
        · rw [if_pos ⟨hpm, q⟩] at ht
          exact go 0 (by omega) (by rw [q, hoff.1]) ht
        · rw [if_neg (fun w => ne01 (by rw [← w.2, q])), if_pos ⟨hpm, q⟩] at ht
          exact go 1 (by omega) (by rw [q, hoff.2]) ht
      have fS : ∀ s : Mem, FrR (fun a => a = 176) S3 s (sI s 169 9 (nI (p1 + 1))) := fun s => frR_sI (by omega) (by unfold S3; omega)
      have fC : ∀ M : Mem, Fr (fun a => a = a0 ∨ a = a0 + 1) M (sI M a0 6 (nI (p1 + 1))) := fun M => fr_sI (Or.inl rfl)
      cases hok2 : ok2
      · refine ⟨false, e2, fun _ => 0, false, by omega, i2, (fun q => by cases q), fun M cl1 b fu i hi hfu hc => ?_, fun s rl1 fu hfu hs => ?_⟩
        · obtain ⟨fu, rfl⟩ : ∃ m, fu = m + 1 + 1 := ⟨fu - 2, by omega⟩
          refine clsA M cl1 b (fu + 1) i _ hi hc (fun r h => ?_)
          obtain ⟨h1, h2, cl', bb, h3, _⟩ := h
          refine ok_call (c_emit hR h3) (fun M2 g => ?_)
          obtain ⟨g1, cl2, g2, _⟩ := g
          rw [h1, hok2, hE]
          have res : Ok (some ((0 : Int32), M2)) (LCo a0 L f p1 cl1 b false e2 V (fun _ => 0) false M) := ok_some ⟨rfl, fr_trans (fr_trans (fC M) h2) g1, cl2, bb, g2, fun q => by cases q⟩
          by_cases c40 : 40 ≤ i + 1
          · rw [ic_pos (show 40 ≤ nI (i + 1) by rw [show (40 : Int32) = nI 40 from rfl, le_nI (by omega) (by omega)]; exact c40), ic_pos (show bI false = 0 ∨ bI false = 1 from bI_01)]
            exact res
          · rw [ic_neg (show ¬ 40 ≤ nI (i + 1) by rw [show (40 : Int32) = nI 40 from rfl, le_nI (by omega) (by omega)]; exact c40), ic_pos (show bI false = 0 from rfl), ic_pos (show bI false = 0 ∨ bI false = 1 from bI_01)]
            exact res
        · obtain ⟨fu, rfl⟩ : ∃ m, fu = m + 1 := ⟨fu - 1, by omega⟩
          refine refA s rl1 fu _ hs (fun r h => ?_)
          obtain ⟨h1, h2, rl', ne', h3, h4, h5, h6, h7, _⟩ := h
          rw [h1, hok2, ic_pos (show bI false = 0 from rfl)]
          exact ok_some ⟨rfl, frR_trans (fS s) h2, rl', ne', h3, h4, h5, by omega, fun i hi => by rw [h7 i hi]; simp (disch := omega) only [↓reduceIte, ic_t, ic_f, not_true_eq_false, not_false_eq_true, ↓lt_v, rdR, rdE, rdS, leT, leTc, leTd, leF, leFc, leFd, ltT, ltTc, ltTd, ltF, ltFc, ltFd, eqT, eqTc, eqTd, eqF, eqFc, eqFd, m1T, m1F, m1T', m1F', inb_nI, ix_nI, inb_c, ix_c, nI_1, nI_pred, nI_m1, add_nIc, add_cnI, bd_v, reduceCtorEq, eqFcc, m1e0, m1e1, m1l0, m1g0, m2l0, m2g0, Int32.reduceLT, Int32.reduceLE, Int32.reduceAdd, Int32.reduceSub, Int32.reduceMul, eq_self, Bool.false_eq_true], fun q => by cases q⟩
      · obtain ⟨v1, v2⟩ := i3 hok2
        obtain ⟨ok, e, V', b', j1, j2, j3, jC, jR⟩ := ih e2 (fun th => opv (f p1) (V th) (W th)) (b1 || b2) i2 (by omega) (vok_op hV v1)
        refine ⟨ok, e, V', b2 || b', by omega, j2, fun q => by have := j3 q; rw [Bool.or_assoc] at this; exact this, fun M cl1 b fu i hi hfu hc => ?_, fun s rl1 fu hfu hs => ?_⟩
        · obtain ⟨fu, rfl⟩ : ∃ m, fu = m + 1 := ⟨fu - 1, by omega⟩
          refine clsA M cl1 b fu i _ hi hc (fun r h => ?_)
          obtain ⟨h1, h2, cl', bb, h3, h4⟩ := h
          refine ok_call (c_emit hR h3) (fun M2 g => ?_)
          obtain ⟨g1, cl2, g2, g3⟩ := g
          rw [h1, hok2]
          refine ok_mono (jC M2 cl2 bb fu (i + 1) (by omega) (by omega) g2) (fun r2 w => ?_)
          obtain ⟨w1, w2, cl3, bb3, w3, w4⟩ := w
          refine ⟨w1, fr_trans (fr_trans (fr_trans (fC M) h2) g1) w2, cl3, bb3, w3, fun hok hcl cl0 hseg => ?_⟩
          obtain ⟨k1, k2, k3, k4⟩ := h4 hok2 (by omega)
          have hlt := hseg.1
          obtain ⟨m1, m2, m3⟩ := g3 (by omega)
          have em : ∀ l, l < cl1 → M2.1 (a0 + 1) l = M.1 (a0 + 1) l := fun l hl => by rw [m3 l (by have := k4.1; omega), k3 l hl, row_n (by omega)]
          have s1 : CSeg a0 (M2.1 (a0 + 1)) cl0 cl1 V := cseg_congr hseg (fun l l1 l2 => em l l2)
          have s2 : CSeg a0 (M2.1 (a0 + 1)) cl1 cl' W := cseg_congr k4 (fun l l1 l2 => m3 l l2)
          have s3 := cseg_bin opc s1 s2 m2
          rw [← m1] at s3
          obtain ⟨n1, n2, n3, n4⟩ := w4 hok (by omega) cl0 s3
          exact ⟨by rw [n1, k1, Bool.or_assoc], by omega, fun l hl => by rw [n3 l hl]; exact em l (by omega), n4⟩
        · obtain ⟨fu, rfl⟩ : ∃ m, fu = m + 1 := ⟨fu - 1, by omega⟩
          refine refA s rl1 fu _ hs (fun r h => ?_)
          have hr := hs.2.2.2
          obtain ⟨h1, h2, rl', ne', h3, h4, h5, h6, h7, h8⟩ := h
          obtain ⟨k1, k2⟩ := h8 hok2
          rw [h1, hok2, ic_neg (show ¬ bI true = 0 from one_ne)]
          refine ok_call (r_codes h3 h4 h5 (by omega)) (fun s2 w => ?_)
          obtain ⟨w1, w2, w3, w4, w5, w6⟩ := w
          refine ok_mono (jR s2 (rl' + 1) fu (by omega) ⟨w2, w3, by rw [w4, k1], by omega⟩) (fun r2 z => ?_)
          obtain ⟨z1, z2, rl3, ne3, z3, z4, z5, z6, z7, z8⟩ := z
          have em : ∀ l, l < rl1 → s2.1 176 l = s.1 176 l := fun l hl => by rw [w6 l (by omega), h7 l hl]; simp (disch := omega) only [↓reduceIte, ic_t, ic_f, not_true_eq_false, not_false_eq_true, ↓lt_v, rdR, rdE, rdS, leT, leTc, leTd, leF, leFc, leFd, ltT, ltTc, ltTd, ltF, ltFc, ltFd, eqT, eqTc, eqTd, eqF, eqFc, eqFd, m1T, m1F, m1T', m1F', inb_nI, ix_nI, inb_c, ix_c, nI_1, nI_pred, nI_m1, add_nIc, add_cnI, bd_v, reduceCtorEq, eqFcc, m1e0, m1e1, m1l0, m1g0, m2l0, m2g0, Int32.reduceLT, Int32.reduceLE, Int32.reduceAdd, Int32.reduceSub, Int32.reduceMul, eq_self, Bool.false_eq_true]
          refine ⟨z1, frR_trans (frR_trans (frR_trans (fS s) h2) w1) z2, rl3, ne3, z3, z4, z5, by omega, fun l hl => by rw [z7 l (by omega)]; exact em l hl, fun hok => ?_⟩
          obtain ⟨y1, y2⟩ := z8 hok
          refine ⟨y1, fun rl0 hseg => ?_⟩
          have s1 : RSeg (s2.1 176) rl0 rl1 V := rseg_congr hseg (fun l l1 l2 => em l l2)
          have s2' : RSeg (s2.1 176) rl1 rl' W := rseg_congr k2 (fun l l1 l2 => w6 l l2)
          exact y2 rl0 (rseg_bin opc s1 s2' w5)
    · exact nosign (d + 1) p1 V b1 hp hV (fun q => ⟨fun w => hsg ⟨q, Or.inl w⟩, fun w => hsg ⟨q, Or.inr w⟩⟩)
