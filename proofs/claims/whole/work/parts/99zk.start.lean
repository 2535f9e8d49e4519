/-! PURE: what binds class and reference at the start -/
def M0 : Mem := (fun _ _ => 0, fun _ _ => 0, fun _ _ => 0)
def Mst : Mem := zX10_init (zX9_init M0)
def v0 : VV := (fun i => if i = 18 then 9 else if i = 19 then 20 else 0, fun _ => 0)
def S0 : SP := ((0, v0, stdF), (0, fun _ => 0), [], (0, fun _ => v0), (fun _ => false, fun _ => v0), (0, fun _ => 0, fun _ => 0))
theorem wf_v0 : WfV 0 v0 := ⟨by omega, fun k hk => absurd hk (Nat.not_lt_zero _), fun k hk => absurd hk (Nat.not_lt_zero _), ⟨9, rfl, by omega, by omega⟩, ⟨20, rfl, by omega, by omega⟩⟩
theorem st_i1 : Mst.1 6 0 = 0 ∧ Mst.1 6 5 = 9 ∧ Mst.1 6 6 = 20 ∧ Mst.1 6 7 = 0 ∧ Mst.1 6 8 = 0 ∧ Mst.1 2 1 = 0 ∧ Mst.1 4 1 = 0 ∧ Mst.1 26 1 = 0 ∧ Mst.1 105 2 = 0 ∧ Mst.1 115 0 = -1 := by decide +kernel
theorem st_i2 : Mst.1 146 1 = 5 ∧ Mst.1 147 0 = -1 ∧ Mst.1 147 1 = -2 ∧ Mst.1 147 2 = 4 ∧ Mst.1 147 3 = -47 ∧ Mst.1 147 4 = -45 := by decide +kernel
theorem st_i3 : Mst.2.2 1 17 = 146 ∧ Mst.2.2 1 18 = 150 ∧ (∀ i, i < 15 → Mst.2.2 27 i = 28 + 5 * i) ∧ ∀ i, i < 3 → Mst.2.2 103 i = 154 + 5 * i ∧ Mst.1 104 i = 0 := by decide +kernel
theorem st_i4 : (∀ i, i < 22 → Mst.1 171 i = v0.1 i) ∧ Mst.1 169 3 = 0 ∧ Mst.1 169 16 = 0 ∧ Mst.1 169 8 = 0 ∧ Mst.1 169 1 = 0 ∧ Mst.1 169 28 = 0 ∧ Mst.1 169 4 = 0 ∧ Mst.1 169 45 = 0 ∧ ∀ i, i < 3 → Mst.1 202 i = 0 ∧ Mst.1 203 i = 0 := by decide +kernel
theorem rel_start : Rel Mst := by
  obtain ⟨a1, a2, a3, a4, a5, a6, a7, a8, a9, a10⟩ := st_i1
  obtain ⟨b1, b2, b3, b4, b5, b6⟩ := st_i2
  obtain ⟨c1, c2, c3, c4⟩ := st_i3
  obtain ⟨d1, d2, d3, d4, d5, d6, d7, d8, d9⟩ := st_i4
  generalize Mst = M at *
  refine ⟨S0, ⟨wf_v0, by show 0 ≤ 16; omega, by show 0 ≤ 15; omega, fun j hj => absurd hj (Nat.not_lt_zero _), fun i hi => by cases hi⟩, ⟨⟨wf_v0, ⟨a1, fun k hk => absurd hk (Nat.not_lt_zero _), fun k hk => absurd hk (Nat.not_lt_zero _), fun k hk => absurd hk (Nat.not_lt_zero _), fun k hk => absurd hk (Nat.not_lt_zero _), a2, a3, a4, a5⟩, ?_, rfl, ?_⟩, ?_, ?_, ?_, ?_, ?_, ?_, ?_⟩, ⟨⟨wf_v0, d2, d1, ?_⟩, ?_, ?_, ?_, ?_, ?_⟩⟩
  · rw [c1]; exact ruC_std b1 b2 b3 b4 b5 b6
  · rw [c1]; exact Or.inl rfl
  · rw [c1, c2]
  · exact ⟨by show 0 ≤ 80; omega, a6, fun i hi => absurd hi (Nat.not_lt_zero _)⟩
  · exact ⟨a7, fun i hi => absurd hi (Nat.not_lt_zero _)⟩
  · refine ⟨by show 0 ≤ 15; omega, a8, fun i hi => ⟨i, hi, c3 i hi⟩, fun i j hi hj e => ?_, fun j hj => absurd hj (Nat.not_lt_zero _)⟩
    rw [c3 i hi, c3 j hj] at e
    omega
  · exact fun i hi => ⟨⟨(c4 i hi).1, (c4 i hi).2⟩, fun h => by cases h⟩
  · exact ⟨by show 0 ≤ 12; omega, a9, fun i hi => absurd hi (Nat.not_lt_zero _)⟩
  · exact Or.inl a10
  · exact ruR_std d3
  · exact ⟨by show 0 ≤ 80; omega, d4, fun i hi => absurd hi (Nat.not_lt_zero _)⟩
  · exact ⟨d5, fun i hi => absurd hi (Nat.not_lt_zero _)⟩
  · exact ⟨d6, fun j hj => absurd hj (Nat.not_lt_zero _)⟩
  · exact ⟨0, Nat.le_refl _, d7, fun i hi => ⟨false, 0, (d9 i hi).1, Nat.le_refl _, (d9 i hi).2, rfl, fun h => by cases h⟩⟩
  · exact ⟨by show 0 ≤ 12; omega, d8, fun i hi => absurd hi (Nat.not_lt_zero _)⟩
