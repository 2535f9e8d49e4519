/-! PURE: reading a rule: expressions -/
theorem p_signed {a0 L ne D p : Nat} {f : Nat → Nat} {rc : Nat → Int32 → Mem → Option (Int32 × Mem)} (hR : a0 = 146 ∨ a0 = 150) (hf : ∀ i, i < L → f i < 256) (hA : ∀ p, p ≤ min L 40 → PSp a0 L f p ne (FCa rc a0 (nI ne)) (FRa (fX10_readsRank D))) (hp : p ≤ min L 40) : PSp a0 L f p ne (fX6_readSigned rc a0 (nI ne)) (fX10_readsRank (D + 1) 3) := by
  obtain ⟨ok, e, V, b', i1, i2, i3, iC, iR⟩ := p_sgn hR hf hA 40 p hp (by omega)
  have hFU : 2000 < FU := FU_big
  refine ⟨ok, e, V, b', i1, i2, i3, fun M cl b hc => ?_, fun s rl hs => ?_⟩
  · show Ok (fX6_readSigned rc a0 (nI ne) M) _
    rw [e_X6_readSigned]
    generalize FU = fu at hFU ⊢
    refine ok_mono (iC false M cl b fu 0 (Nat.zero_le _) (by omega) hc) (fun r h => ?_)
    obtain ⟨k1, k2, cl', bb, k3, k4⟩ := h
    refine ⟨k1, k2, cl', bb, k3, fun hok hcl => ?_⟩
    have x0 : x1n false = 0 := rfl
    obtain ⟨m1, m2, m3, m4⟩ := k4 hok (by omega)
    exact ⟨m1, by omega, m3, cseg_val m4 (fun th => (if_neg (by decide)).symm)⟩
  · show Ok (fX10_readsRank (D + 1) 3 s) _
    rw [e_X10_readsRank, e_X10_readsRank_b, ic_pos rfl]
    refine ok_call (iR s rl 41 (by omega) hs) (fun r h => ?_)
    rw [h.1, ic_pos bI_01]
    exact ok_some ⟨rfl, h.2⟩
theorem p_chain {a0 L ne c0 c1 off j : Nat} {f : Nat → Nat} {Sub SubR : Mem → Option (Int32 × Mem)} {G8 : Nat → Int32 → Int32 → Mem → Option (Int32 × Mem)} {G24 : Nat → Mem → Option (Int32 × Mem)} (hR : a0 = 146 ∨ a0 = 150) (hf : ∀ i, i < L → f i < 256)
    (hj : (j = 2 ∧ c0 = 43 ∧ c1 = 45) ∨ (j = 3 ∧ c0 = 42 ∧ c1 = 47)) (hoff : acN c0 = 0 + off ∧ acN c1 = 1 + off)
    (hE : ∀ (n : Nat) (x2 x3 : Int32) (M : Mem), G8 (n + 1) x2 x3 M = ic (40 ≤ x3) (ic (x2 = 0 ∨ x2 = 1) (some (x2, M)) none) (ic (x2 = 0) (ic (x2 = 0 ∨ x2 = 1) (some (x2, M)) none) ((fX6_peek a0 M).bind fun q7 => ic (q7.1 = nI c0) (lt (sI q7.2 a0 6 ((q7.2.1 a0 6) + 1)) fun M11 => (Sub M11).bind fun q13 => (fX6_emit a0 (-q7.1) q13.2).bind fun q15 => lt (x3 + 1) fun y17 => G8 n q13.1 y17 q15) (ic (q7.1 = nI c1) (lt (sI q7.2 a0 6 ((q7.2.1 a0 6) + 1)) fun M11 => (Sub M11).bind fun q13 => (fX6_emit a0 (-q7.1) q13.2).bind fun q15 => lt (x3 + 1) fun y17 => G8 n q13.1 y17 q15) (some (1, q7.2))))))
    (hER : ∀ (n : Nat) (M : Mem), G24 (n + 1) M = (fX10_takesOf j M).bind fun q11 => ic (0 ≤ q11.1) ((SubR q11.2).bind fun q14 => ic (q14.1 = 0) (some (0, q14.2)) ((fX10_codes (2000 + q11.1 + nI off) q14.2).bind fun q19 => G24 n q19)) (some (1, q11.2)))
    (hS : ∀ p, p ≤ min L 40 → PSp a0 L f p ne Sub SubR) {FC FR : Mem → Option (Int32 × Mem)} (fu : Nat) (hfu : 100 ≤ fu) (hFC : ∀ M, FC M = (Sub M).bind fun q1 => G8 fu q1.1 0 q1.2) (hFR : ∀ s, FR s = (SubR s).bind fun q2 => ic (q2.1 = 0) (some (0, q2.2)) (G24 fu q2.2)) {p : Nat} (hp : p ≤ min L 40) : PSp a0 L f p ne FC FR := by
  obtain ⟨ok1, e1, V1, b1, i1, i2, i3, iC, iR⟩ := hS p hp
  cases hok1 : ok1
  · refine ⟨false, e1, fun _ => 0, false, i1, i2, (fun q => by cases q), fun M cl b hc => ?_, fun s rl hs => ?_⟩
    · rw [hFC]
      refine ok_call (iC M cl b hc) (fun r h => ?_)
      obtain ⟨h1, h2, cl', bb, h3, _⟩ := h
      obtain ⟨fu, rfl⟩ : ∃ m, fu = m + 1 := ⟨fu - 1, by omega⟩
      rw [h1, hok1, hE, ic_neg (show ¬ (40 : Int32) ≤ 0 by decide), ic_pos (show bI false = 0 from rfl), ic_pos (show bI false = 0 ∨ bI false = 1 from bI_01)]
      exact ok_some ⟨rfl, h2, cl', bb, h3, fun q => by cases q⟩
    · rw [hFR]
      refine ok_call (iR s rl hs) (fun r h => ?_)
      obtain ⟨h1, h2, rl', ne', h3, h4, h5, h6, h7, _⟩ := h
      rw [h1, hok1, ic_pos (show bI false = 0 from rfl)]
      exact ok_some ⟨rfl, h2, rl', ne', h3, h4, h5, h6, h7, fun q => by cases q⟩
  · obtain ⟨v1, v2⟩ := i3 hok1
    obtain ⟨ok, e, V', b', j1, j2, j3, jC, jR⟩ := p_loop hR hf hj hoff hE hER hS 40 e1 V1 b1 i2 (by omega) v1
    refine ⟨ok, e, V', b1 || b', by omega, j2, fun q => ⟨j3 q, by omega⟩, fun M cl b hc => ?_, fun s rl hs => ?_⟩
    · rw [hFC]
      refine ok_call (iC M cl b hc) (fun r h => ?_)
      obtain ⟨h1, h2, cl', bb, h3, h4⟩ := h
      rw [h1, hok1]
      refine ok_mono (jC r.2 cl' bb fu 0 (Nat.zero_le _) (by omega) h3) (fun r2 w => ?_)
      obtain ⟨w1, w2, cl3, bb3, w3, w4⟩ := w
      refine ⟨w1, fr_trans h2 w2, cl3, bb3, w3, fun hok hcl => ?_⟩
      obtain ⟨k1, k2, k3, k4⟩ := h4 hok1 hcl
      obtain ⟨n1, n2, n3, n4⟩ := w4 hok (by omega) cl k4
      exact ⟨by rw [n1, k1, Bool.or_assoc], by omega, fun l hl => by rw [n3 l hl]; exact k3 l hl, n4⟩
    · rw [hFR]
      refine ok_call (iR s rl hs) (fun r h => ?_)
      have hr := hs.2.2.2
      obtain ⟨h1, h2, rl', ne', h3, h4, h5, h6, h7, h8⟩ := h
      obtain ⟨k1, k2⟩ := h8 hok1
      rw [h1, hok1, ic_neg (show ¬ bI true = 0 from one_ne)]
      refine ok_mono (jR r.2 rl' fu (by omega) ⟨h3, h4, by rw [h5, k1], by omega⟩) (fun r2 z => ?_)
      obtain ⟨z1, z2, rl3, ne3, z3, z4, z5, z6, z7, z8⟩ := z
      refine ⟨z1, frR_trans h2 z2, rl3, ne3, z3, z4, z5, by omega, fun l hl => by rw [z7 l (by omega)]; exact h7 l hl, fun hok => ?_⟩
      obtain ⟨y1, y2⟩ := z8 hok
      exact ⟨y1, y2 rl k2⟩
theorem i23 : ¬ ((2 : Int32) = 3) := by decide
theorem i20 : ¬ ((2 : Int32) = 0) := by decide
theorem i21 : ¬ ((2 : Int32) = 1) := by decide
theorem i2p : (2 : Int32) + 1 = 3 := by decide
theorem i2z : ¬ ((2 : Int32) ≤ 0) := by decide
theorem i13 : ¬ ((1 : Int32) = 3) := by decide
theorem i1p : (1 : Int32) + 1 = 2 := by decide
theorem i1z : ¬ ((1 : Int32) ≤ 0) := by decide
theorem i03 : ¬ ((0 : Int32) = 3) := by decide
theorem i0p : (0 : Int32) + 1 = 1 := by decide
theorem p_product {a0 L ne D p : Nat} {f : Nat → Nat} {rc : Nat → Int32 → Mem → Option (Int32 × Mem)} (hR : a0 = 146 ∨ a0 = 150) (hf : ∀ i, i < L → f i < 256) (hS : ∀ p, p ≤ min L 40 → PSp a0 L f p ne (fX6_readSigned rc a0 (nI ne)) (fX10_readsRank D 3)) (hp : p ≤ min L 40) : PSp a0 L f p ne (fX6_readProduct rc a0 (nI ne)) (fX10_readsRank (D + 1) 2) := by
  have hFU : 2000 < FU := FU_big
  refine p_chain (G8 := fun n x2 x3 M => fX6_readProduct_8 rc n a0 (nI ne) x2 x3 M) (G24 := fun n M => fX10_readsRank_24 (fX10_readsRank D) n 2 1 M) (c0 := 42) (c1 := 47) (off := 5) (j := 3) hR hf (Or.inr ⟨rfl, rfl, rfl⟩) ⟨rfl, rfl⟩ (fun n x2 x3 M => ?_) (fun n M => ?_) hS FU (by omega) (fun M => ?_) (fun s => ?_) hp
  · show fX6_readProduct_8 rc (n + 1) a0 (nI ne) x2 x3 M = _
    rw [e_X6_readProduct_8]
    simp only [e_X6_readProduct_40]
    rfl
  · show fX10_readsRank_24 (fX10_readsRank D) (n + 1) 2 1 M = _
    rw [e_X10_readsRank_24, ic_neg one_ne, ic_neg i20, ic_neg i21, e_X10_readsRank_50]
    simp only [e_X10_readsRank_96, ic_neg i20, ic_neg i21, ic_neg i2z, i2p]
    rfl
  · show fX6_readProduct rc a0 (nI ne) M = _
    rw [e_X6_readProduct]
  · show fX10_readsRank (D + 1) 2 s = _
    rw [e_X10_readsRank, e_X10_readsRank_b, ic_neg i23, i2p]
theorem p_sum {a0 L ne D p : Nat} {f : Nat → Nat} {rc : Nat → Int32 → Mem → Option (Int32 × Mem)} (hR : a0 = 146 ∨ a0 = 150) (hf : ∀ i, i < L → f i < 256) (hS : ∀ p, p ≤ min L 40 → PSp a0 L f p ne (fX6_readProduct rc a0 (nI ne)) (fX10_readsRank D 2)) (hp : p ≤ min L 40) : PSp a0 L f p ne (fX6_readSum rc a0 (nI ne)) (fX10_readsRank (D + 1) 1) := by
  have hFU : 2000 < FU := FU_big
  refine p_chain (G8 := fun n x2 x3 M => fX6_readSum_8 rc n a0 (nI ne) x2 x3 M) (G24 := fun n M => fX10_readsRank_24 (fX10_readsRank D) n 1 1 M) (c0 := 43) (c1 := 45) (off := 3) (j := 2) hR hf (Or.inl ⟨rfl, rfl, rfl⟩) ⟨rfl, rfl⟩ (fun n x2 x3 M => ?_) (fun n M => ?_) hS FU (by omega) (fun M => ?_) (fun s => ?_) hp
  · show fX6_readSum_8 rc (n + 1) a0 (nI ne) x2 x3 M = _
    rw [e_X6_readSum_8]
    simp only [e_X6_readSum_40]
    rfl
  · show fX10_readsRank_24 (fX10_readsRank D) (n + 1) 1 1 M = _
    rw [e_X10_readsRank_24, ic_neg one_ne, ic_neg one_ne, ic_pos rfl, e_X10_readsRank_50]
    simp only [e_X10_readsRank_96, ic_neg one_ne, ic_pos, ic_neg i1z, i1p]
    rfl
  · show fX6_readSum rc a0 (nI ne) M = _
    rw [e_X6_readSum]
  · show fX10_readsRank (D + 1) 1 s = _
    rw [e_X10_readsRank, e_X10_readsRank_b, ic_neg i13, i1p]
