/-! PURE: reading a rule: signs ahead -/
theorem c_45 {rc : Nat → Int32 → Mem → Option (Int32 × Mem)} {a0 : Nat} {x1 x2 : Int32} {M : Mem} : fX6_readSigned_45 rc a0 x1 x2 M = (FCa rc a0 x1 M).bind fun q => fX6_readSigned_68 rc a0 x2 q.1 q.2 := by
  rw [e_X6_readSigned_45]
  unfold FCa
  cases fX6_peek a0 M with
  | none => rfl
  | some q =>
    rw [bd_v, bd_v]
    by_cases h : q.1 = 40
    · rw [ic_pos h, ic_pos h]
    · rw [ic_neg h, ic_neg h]
def ngV (x : Bool) (V : (Nat → Int32) → Int32) : (Nat → Int32) → Int32 := fun th => if x = true then -(V th) else V th
def x1n (x : Bool) : Nat := if x = true then 1 else 0
def CPs (a0 L : Nat) (f : Nat → Nat) (p cl : Nat) (b ok : Bool) (e : Nat) (V : (Nat → Int32) → Int32) (b' x2 : Bool) (M : Mem) (r : Int32 × Mem) : Prop := r.1 = bI ok ∧ Fr (fun a => a = a0 ∨ a = a0 + 1) M r.2 ∧ ∃ cl' bb, CSt a0 L f e cl' bb r.2 ∧ (ok = true → cl + x1n x2 ≤ p → bb = (b || b') ∧ cl' + p ≤ cl + e + x1n x2 ∧ (∀ i, i < cl → r.2.1 (a0 + 1) i = M.1 (a0 + 1) i) ∧ CSeg a0 (r.2.1 (a0 + 1)) cl cl' (ngV x2 V))
theorem vok_neg {V : (Nat → Int32) → Int32} {b : Bool} (h : VOk V b) : VOk (fun th => -(V th)) b := ⟨fun hb th th' h0 h1 h3 h6 => by show -(V th) = -(V th'); rw [h.1 hb th th' h0 h1 h3 h6], fun th th' hh => by show -(V th) = -(V th'); rw [h.2 th th' hh]⟩
theorem cseg_val {a0 i j : Nat} {c : Nat → Int32} {V W : (Nat → Int32) → Int32} (h : CSeg a0 c i j V) (e : ∀ th, W th = V th) : CSeg a0 c i j W := by
  have : W = V := funext e
  rw [this]; exact h
theorem bI_ne {b : Bool} (h : b = true) : ¬ bI b = 0 := by subst h; exact one_ne
theorem bI_01 {b : Bool} : bI b = 0 ∨ bI b = 1 := by cases b; exact Or.inl rfl; exact Or.inr rfl
theorem p_sgn {a0 L ne : Nat} {f : Nat → Nat} {rc : Nat → Int32 → Mem → Option (Int32 × Mem)} {rcR : Int32 → Mem → Option (Int32 × Mem)} (hR : a0 = 146 ∨ a0 = 150) (hf : ∀ i, i < L → f i < 256) (hA : ∀ p, p ≤ min L 40 → PSp a0 L f p ne (FCa rc a0 (nI ne)) (FRa rcR)) : ∀ d p, p ≤ min L 40 → min L 40 - p ≤ d → ∃ (ok : Bool) (e : Nat) (V : (Nat → Int32) → Int32) (b' : Bool), p ≤ e ∧ e ≤ min L 40 ∧ (ok = true → VOk V b' ∧ p < e) ∧
    (∀ (x2 : Bool) (M : Mem) (cl : Nat) (b : Bool) (fu i : Nat), i ≤ p → d + 1 ≤ fu → CSt a0 L f p cl b M → Ok (fX6_readSigned_4 rc fu a0 (nI ne) (bI x2) (nI i) M) (CPs a0 L f p cl b ok e V b' x2 M)) ∧
    (∀ (s : Mem) (rl D : Nat), d + 1 ≤ D → RSt (min L 40) f p rl ne s → Ok (fX10_readsThing rcR D s) (RPo (min L 40) f p rl ne ok e V s)) := by
  have base : ∀ d p, p ≤ min L 40 → ¬ (p < min L 40 ∧ f p = 45) → ∃ (ok : Bool) (e : Nat) (V : (Nat → Int32) → Int32) (b' : Bool), p ≤ e ∧ e ≤ min L 40 ∧ (ok = true → VOk V b' ∧ p < e) ∧
    (∀ (x2 : Bool) (M : Mem) (cl : Nat) (b : Bool) (fu i : Nat), i ≤ p → d + 1 ≤ fu → CSt a0 L f p cl b M → Ok (fX6_readSigned_4 rc fu a0 (nI ne) (bI x2) (nI i) M) (CPs a0 L f p cl b ok e V b' x2 M)) ∧
    (∀ (s : Mem) (rl D : Nat), d + 1 ≤ D → RSt (min L 40) f p rl ne s → Ok (fX10_readsThing rcR D s) (RPo (min L 40) f p rl ne ok e V s)) := by
    intro d p hp hno
    obtain ⟨ok, e, V, b', i1, i2, i3, iC, iR⟩ := hA p hp
    refine ⟨ok, e, V, b', i1, i2, i3, fun x2 M cl b fu i hi hfu hc => ?_, fun s rl D hD hs => ?_⟩
    · have fin : Ok (fX6_readSigned_45 rc a0 (nI ne) (bI x2) M) (CPs a0 L f p cl b ok e V b' x2 M) := by
        rw [c_45]
        refine ok_call (iC M cl b hc) (fun r h => ?_)
        obtain ⟨h1, h2, cl', bb, h3, h4⟩ := h
        rw [e_X6_readSigned_68, h1]
        cases hok : ok
        · rw [ic_pos (show bI false = 0 from rfl), ic_pos (show bI false = 0 ∨ bI false = 1 from bI_01)]
          exact ok_some ⟨rfl, h2, cl', bb, h3, fun q => by cases q⟩
        · rw [ic_neg (show ¬ bI true = 0 from one_ne)]
          cases x2
          · rw [ic_pos (show bI false = 0 from rfl), ic_pos (show bI true = 0 ∨ bI true = 1 from bI_01)]
            refine ok_some ⟨rfl, h2, cl', bb, h3, fun _ hcl => ?_⟩
            obtain ⟨k1, k2, k3, k4⟩ := h4 hok (by have : x1n false = 0 := rfl; omega)
            exact ⟨k1, by have : x1n false = 0 := rfl; omega, k3, cseg_val k4 (fun th => if_neg (by decide))⟩
          · rw [ic_neg (show ¬ bI true = 0 from one_ne)]
            refine ok_call (c_emit hR h3) (fun M2 g => ?_)
            obtain ⟨g1, cl2, g2, g3⟩ := g
            rw [ic_pos (show bI true = 0 ∨ bI true = 1 from bI_01)]
            refine ok_some ⟨rfl, fr_trans h2 g1, cl2, bb, g2, fun _ hcl => ?_⟩
            have x1 : x1n true = 1 := rfl
            obtain ⟨k1, k2, k3, k4⟩ := h4 hok (by omega)
            obtain ⟨m1, m2, m3⟩ := g3 (by omega)
            refine ⟨k1, by omega, fun j hj => by rw [m3 j (by have := k4.1; omega)]; exact k3 j hj, ?_⟩
            rw [m1]
            have c2 := cseg_congr (c' := M2.1 (a0 + 1)) k4 (fun j j1 j2 => m3 j j2)
            exact cseg_val (cseg_neg c2 m2) (fun th => if_pos rfl)
      obtain ⟨fu, rfl⟩ : ∃ m, fu = m + 1 := ⟨fu - 1, by omega⟩
      rw [e_X6_readSigned_4]
      by_cases c40 : 40 ≤ i
      · rw [ic_pos (show 40 ≤ nI i by rw [show (40 : Int32) = nI 40 from rfl, le_nI (by omega) (by omega)]; exact c40)]
        exact fin
      · rw [ic_neg (show ¬ 40 ≤ nI i by rw [show (40 : Int32) = nI 40 from rfl, le_nI (by omega) (by omega)]; exact c40)]
        have pk := c_peek hc (by omega)
        have n45 : ¬ (if p < min L 40 then nI (f p) else -1) = (45 : Int32) := by
          by_cases c : p < min L 40
          · rw [if_pos c, show (45 : Int32) = nI 45 from rfl, nI_eq (by have := hf p (by omega); omega) (by omega)]
            exact fun q => hno ⟨c, q⟩
          · rw [if_neg c]; decide
        rw [pk, bd_v, ic_neg n45]
        exact fin
    · obtain ⟨D, rfl⟩ : ∃ m, D = m + 1 := ⟨D - 1, by omega⟩
      obtain ⟨hAt, h17, h11, hr⟩ := hs
      have ht := r_takes (c := 45) hAt (by omega)
      rw [decide_eq_false hno, if_neg hno, show bI false = 0 from rfl] at ht
      rw [e_X10_readsThing, e_X10_readsThing_b, show (45 : Int32) = nI 45 from rfl, ht, bd_v, ic_pos (show ((0 : Int32), sI s 169 9 (nI (p + 0))).1 = 0 from rfl)]
      have q : RSt (min L 40) f p rl ne (sI s 169 9 (nI (p + 0))) := ⟨atR_set hAt (b := p + 0) (by omega), by simp (disch := omega) only [↓reduceIte, ic_t, ic_f, not_true_eq_false, not_false_eq_true, ↓lt_v, rdR, rdE, rdS, leT, leTc, leTd, leF, leFc, leFd, ltT, ltTc, ltTd, ltF, ltFc, ltFd, eqT, eqTc, eqTd, eqF, eqFc, eqFd, m1T, m1F, m1T', m1F', inb_nI, ix_nI, inb_c, ix_c, nI_1, nI_pred, nI_m1, add_nIc, add_cnI, bd_v, reduceCtorEq, eqFcc, m1e0, m1e1, m1l0, m1g0, m2l0, m2g0, Int32.reduceLT, Int32.reduceLE, Int32.reduceAdd, Int32.reduceSub, Int32.reduceMul, eq_self, Bool.false_eq_true]; exact h17, by simp (disch := omega) only [↓reduceIte, ic_t, ic_f, not_true_eq_false, not_false_eq_true, ↓lt_v, rdR, rdE, rdS, leT, leTc, leTd, leF, leFc, leFd, ltT, ltTc, ltTd, ltF, ltFc, ltFd, eqT, eqTc, eqTd, eqF, eqFc, eqFd, m1T, m1F, m1T', m1F', inb_nI, ix_nI, inb_c, ix_c, nI_1, nI_pred, nI_m1, add_nIc, add_cnI, bd_v, reduceCtorEq, eqFcc, m1e0, m1e1, m1l0, m1g0, m2l0, m2g0, Int32.reduceLT, Int32.reduceLE, Int32.reduceAdd, Int32.reduceSub, Int32.reduceMul, eq_self, Bool.false_eq_true]; exact h11, hr⟩
      refine ok_mono (iR _ rl q) (fun r h => ?_)
      obtain ⟨k1, k2, rl', ne', k3, k4, k5, k6, k7, k8⟩ := h
      exact ⟨k1, frR_trans (frR_sI (by omega) (by unfold S3; omega)) k2, rl', ne', k3, k4, k5, k6, fun i hi => by rw [k7 i hi]; simp (disch := omega) only [↓reduceIte, ic_t, ic_f, not_true_eq_false, not_false_eq_true, ↓lt_v, rdR, rdE, rdS, leT, leTc, leTd, leF, leFc, leFd, ltT, ltTc, ltTd, ltF, ltFc, ltFd, eqT, eqTc, eqTd, eqF, eqFc, eqFd, m1T, m1F, m1T', m1F', inb_nI, ix_nI, inb_c, ix_c, nI_1, nI_pred, nI_m1, add_nIc, add_cnI, bd_v, reduceCtorEq, eqFcc, m1e0, m1e1, m1l0, m1g0, m2l0, m2g0, Int32.reduceLT, Int32.reduceLE, Int32.reduceAdd, Int32.reduceSub, Int32.reduceMul, eq_self, Bool.false_eq_true], k8⟩
  intro d
  induction d with
  | zero => exact fun p hp hd => base 0 p hp (fun q => by omega)
  | succ d ih =>
    intro p hp hd
    by_cases c : p < min L 40 ∧ f p = 45
    · obtain ⟨ok, e, V, b', i1, i2, i3, iC, iR⟩ := ih (p + 1) (by omega) (by omega)
      refine ⟨ok, e, fun th => -(V th), b', by omega, i2, fun q => ⟨vok_neg (i3 q).1, by omega⟩, fun x2 M cl b fu i hi hfu hc => ?_, fun s rl D hD hs => ?_⟩
      · obtain ⟨fu, rfl⟩ : ∃ m, fu = m + 1 := ⟨fu - 1, by omega⟩
        have pk := c_peek hc (by omega)
        rw [if_pos c.1, c.2] at pk
        have h6 := hc.1
        have step : ∀ (y : Bool), y = !x2 → Ok (fX6_readSigned_4 rc fu a0 (nI ne) (bI y) (nI (i + 1)) (sI M a0 6 (nI (p + 1)))) (CPs a0 L f p cl b ok e (fun th => -(V th)) b' x2 M) := by
          intro y hy
          refine ok_mono (iC y (sI M a0 6 (nI (p + 1))) cl b fu (i + 1) (by omega) (by omega) (cst_pos hR hc)) (fun r h => ?_)
          obtain ⟨k1, k2, cl', bb, k3, k4⟩ := h
          refine ⟨k1, fr_trans (fr_sI (Or.inl rfl)) k2, cl', bb, k3, fun hok hcl => ?_⟩
          have xn : x1n y + x1n x2 = 1 := by subst hy; cases x2 <;> rfl
          obtain ⟨m1, m2, m3, m4⟩ := k4 hok (by omega)
          refine ⟨m1, by omega, fun j hj => by rw [m3 j hj, row_n (by omega)], cseg_val m4 (fun th => ?_)⟩
          subst hy
          cases x2
          · have qa : ngV false (fun th => -(V th)) th = -(V th) := if_neg (by decide)
            have qb : ngV (!false) V th = -(V th) := if_pos rfl
            rw [qa, qb]
          · have qa : ngV true (fun th => -(V th)) th = - -(V th) := if_pos rfl
            have qb : ngV (!true) V th = V th := if_neg (by decide)
            rw [qa, qb, Int32.neg_neg]
        rw [e_X6_readSigned_4, ic_neg (show ¬ 40 ≤ nI i by rw [show (40 : Int32) = nI 40 from rfl, le_nI (by omega) (by omega)]; omega), pk, bd_v, ic_pos (show (nI 45, M).1 = 45 from rfl)]
        cases x2
        · rw [ic_pos (show bI false = 0 from rfl), lt_v]
          show Ok (fX6_readSigned_4 rc fu a0 (nI ne) 1 (nI i + 1) (sI M a0 6 (M.1 a0 6 + 1))) _
          rw [h6, add_nIc, add_nIc]
          exact step true rfl
        · rw [ic_neg (show ¬ bI true = 0 from one_ne), lt_v]
          show Ok (fX6_readSigned_4 rc fu a0 (nI ne) 0 (nI i + 1) (sI M a0 6 (M.1 a0 6 + 1))) _
          rw [h6, add_nIc, add_nIc]
          exact step false rfl
      · obtain ⟨D, rfl⟩ : ∃ m, D = m + 1 := ⟨D - 1, by omega⟩
        obtain ⟨hAt, h17, h11, hr⟩ := hs
        have ht := r_takes (c := 45) hAt (by omega)
        rw [decide_eq_true c, if_pos c, show bI true = 1 from rfl] at ht
        rw [e_X10_readsThing, e_X10_readsThing_b, show (45 : Int32) = nI 45 from rfl, ht, bd_v, ic_neg (show ¬ ((1 : Int32), sI s 169 9 (nI (p + 1))).1 = 0 from one_ne)]
        refine ok_call (iR (sI s 169 9 (nI (p + 1))) rl D (by omega) ⟨atR_set hAt (b := p + 1) (by omega), by simp (disch := omega) only [↓reduceIte, ic_t, ic_f, not_true_eq_false, not_false_eq_true, ↓lt_v, rdR, rdE, rdS, leT, leTc, leTd, leF, leFc, leFd, ltT, ltTc, ltTd, ltF, ltFc, ltFd, eqT, eqTc, eqTd, eqF, eqFc, eqFd, m1T, m1F, m1T', m1F', inb_nI, ix_nI, inb_c, ix_c, nI_1, nI_pred, nI_m1, add_nIc, add_cnI, bd_v, reduceCtorEq, eqFcc, m1e0, m1e1, m1l0, m1g0, m2l0, m2g0, Int32.reduceLT, Int32.reduceLE, Int32.reduceAdd, Int32.reduceSub, Int32.reduceMul, eq_self, Bool.false_eq_true]; exact h17, by simp (disch := omega) only [↓reduceIte, ic_t, ic_f, not_true_eq_false, not_false_eq_true, ↓lt_v, rdR, rdE, rdS, leT, leTc, leTd, leF, leFc, leFd, ltT, ltTc, ltTd, ltF, ltFc, ltFd, eqT, eqTc, eqTd, eqF, eqFc, eqFd, m1T, m1F, m1T', m1F', inb_nI, ix_nI, inb_c, ix_c, nI_1, nI_pred, nI_m1, add_nIc, add_cnI, bd_v, reduceCtorEq, eqFcc, m1e0, m1e1, m1l0, m1g0, m2l0, m2g0, Int32.reduceLT, Int32.reduceLE, Int32.reduceAdd, Int32.reduceSub, Int32.reduceMul, eq_self, Bool.false_eq_true]; exact h11, by omega⟩) (fun r h => ?_)
        obtain ⟨k1, k2, rl', ne', k3, k4, k5, k6, k7, k8⟩ := h
        refine ok_call (r_codes k3 k4 k5 (by omega)) (fun s2 w => ?_)
        obtain ⟨w1, w2, w3, w4, w5, w6⟩ := w
        rw [k1, ic_pos bI_01]
        refine ok_some ⟨rfl, frR_trans (frR_trans (frR_sI (by omega) (by unfold S3; omega)) k2) w1, rl' + 1, ne', w2, w3, w4, by omega, fun j hj => ?_, fun hok => ?_⟩
        · show s2.1 176 j = s.1 176 j
          rw [w6 j (by omega), k7 j hj]
          simp (disch := omega) only [↓reduceIte, ic_t, ic_f, not_true_eq_false, not_false_eq_true, ↓lt_v, rdR, rdE, rdS, leT, leTc, leTd, leF, leFc, leFd, ltT, ltTc, ltTd, ltF, ltFc, ltFd, eqT, eqTc, eqTd, eqF, eqFc, eqFd, m1T, m1F, m1T', m1F', inb_nI, ix_nI, inb_c, ix_c, nI_1, nI_pred, nI_m1, add_nIc, add_cnI, bd_v, reduceCtorEq, eqFcc, m1e0, m1e1, m1l0, m1g0, m2l0, m2g0, Int32.reduceLT, Int32.reduceLE, Int32.reduceAdd, Int32.reduceSub, Int32.reduceMul, eq_self, Bool.false_eq_true]
        · obtain ⟨n1, n2⟩ := k8 hok
          refine ⟨n1, ?_⟩
          have c2 := rseg_congr (c' := s2.1 176) n2 (fun j j1 j2 => w6 j j2)
          exact rseg_neg c2 w5
    · exact base (d + 1) p hp c
