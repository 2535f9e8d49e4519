/-! PURE: crossed -/
def plv (v : VV) (b : Nat) : Nat := (v.1 (12 + b)).toInt.toNat
theorem wf_plv {n b : Nat} {v : VV} (hw : WfV n v) (hb : b < n) : plv v b < n ∧ v.1 (12 + b) = nI (plv v b) ∧ v.2 (plv v b) = b := by
  have hn : n ≤ 6 := hw.1
  obtain ⟨k, hk, e⟩ := hw.2.2.1 b hb
  have h2 := (hw.2.1 k hk).2
  rw [e] at h2
  have hp : plv v b = k := by
    unfold plv
    rw [h2, nI_toInt (by omega)]
    omega
  rw [hp]
  exact ⟨hk, h2, e⟩
theorem prm_inv {n : Nat} {g : Nat → Nat} (h : Prm n g) : ∃ gi : Nat → Nat, (∀ a, a < n → gi a < n) ∧ (∀ i, i < n → gi (g i) = i) ∧ ∀ a k, a < n → k < n → (g k = a ↔ k = gi a) := by
  have ex : ∀ a, ∃ k, a < n → k < n ∧ g k = a := fun a => by
    by_cases ha : a < n
    · obtain ⟨k, hk, e⟩ := prm_ex h ha
      exact ⟨k, fun _ => ⟨hk, e⟩⟩
    · exact ⟨0, fun q => absurd q ha⟩
  have sp : ∀ a, a < n → Classical.choose (ex a) < n ∧ g (Classical.choose (ex a)) = a := fun a ha => Classical.choose_spec (ex a) ha
  refine ⟨fun a => Classical.choose (ex a), fun a ha => (sp a ha).1, fun i hi => ?_, fun a k ha hk => ⟨fun e => ?_, fun e => ?_⟩⟩
  · have := sp (g i) (h.1 i hi)
    exact h.2 _ _ this.1 hi this.2
  · have := sp a ha
    exact h.2 _ _ hk this.1 (by rw [e, this.2])
  · rw [e]; exact (sp a ha).2
theorem st_crossed {M : Mem} (h : Rel M) : StI (fun M => fX9_crossed M) (fun M => fX10_crossed M) M := by
  refine st_order (kC := fun M => (fX9_relate 6 M).bind fun q4 => fX9_crossed_25 FU 0 0 q4) (kR := fun M => fX10_crossed_50 FU 0 0 0 0 M) h (fun M => e_X9_crossed M) (fun M => by show fX10_crossed M = _; rw [e_X10_crossed, lt_v]) (fun S g hS hg => ?_)
  have hn : S.1.1 ≤ 6 := hS.1.1
  obtain ⟨gi, i1, i2, i3⟩ := prm_inv hg
  have hp : ∀ a, a < S.1.1 → plv S.1.2.1 a < S.1.1 ∧ gi a < S.1.1 := fun a ha => ⟨(wf_plv hS.1 ha).1, i1 a ha⟩
  have hin : ∀ a b, a < S.1.1 → b < S.1.1 → plv S.1.2.1 a = plv S.1.2.1 b → a = b := fun a b ha hb e => by
    have h1 := (wf_plv hS.1 ha).2.2
    have h2 := (wf_plv hS.1 hb).2.2
    rw [← h1, ← h2, e]
  have ce := cross_eq hg i2 hin
  refine ⟨nI (tr S.1.1 (fun a b => if decide (plv S.1.2.1 b ≤ plv S.1.2.1 a) = decide (gi b ≤ gi a) then 0 else 1)), rowS S (some [(nI (ft (plv S.1.2.1) gi S.1.1).1).toInt64, (nI (ft (plv S.1.2.1) gi S.1.1).2).toInt64]), ok_rowS hS (fun l' e => by cases e; simp), fun M hc h142 => ?_, fun M1 hr h190 => ?_⟩
  · show Ok ((fX9_relate 6 M).bind fun q4 => fX9_crossed_25 FU 0 0 q4) _
    refine ok_call (c_relate hn hc.1.2.1 hg.1 h142) (fun M1 k => ?_)
    obtain ⟨k1, k2⟩ := k
    have e0 : M1.1 6 0 = nI S.1.1 := by rw [k2.1 6 (by omega)]; exact hc.1.2.1.1
    have kc : KC M M1 := ⟨fun a h1 _ => k2.1 a (by unfold SC at h1; omega), fun a _ => by rw [k2.2], by rw [k2.2]⟩
    rw [c_cross25 (h := fun i => plv S.1.2.1 (g i)) hn e0 (fun i hi => ⟨by rw [k1 i hi]; exact (wf_plv hS.1 (hg.1 i hi)).2.1, by have := (wf_plv hS.1 (hg.1 i hi)).1; omega⟩), ce, c_far (pl := plv S.1.2.1) (gi := gi) (g := g) hn e0 hp (fun a ha => by rw [k2.1 9 (by omega)]; rw [← (wf_plv hS.1 ha).2.1]; exact hc.1.2.1.2.2.2.1 a ha) (fun k hk => ⟨by rw [k2.1 142 (by omega)]; exact h142 k hk, hg.1 k hk⟩) i3]
    exact ok_call (ok_call (c_tellB kc) (fun M2 t => ok_some t)) (fun M2 t => ok_some ⟨rfl, crel_q hc t.1 t.2.1, kc_cfr t.1⟩)
  · show Ok (fX10_crossed_50 FU 0 0 0 0 M1) _
    rw [r_cross50 (pl := plv S.1.2.1) (gi := gi) hn hr.1.2.1 hp (fun b hb => by rw [← (wf_plv hS.1 hb).2.1]; exact hr.1.2.2.1 (12 + b) (by omega)) (fun b hb => r_placeIn (g := g) hn (i1 b hb) (fun k hk => ⟨h190 k hk, hg.1 k hk⟩) hb (fun k hk => i3 b k hb hk))]
    obtain ⟨z1, z2⟩ := r_zero (kr_rfl (M := M1))
    refine ok_call (r_enters (l := []) (by simp) z1 z2) (fun M4 t => ?_)
    refine ok_call (r_enters (l := [(nI (ft (plv S.1.2.1) gi S.1.1).1).toInt64]) (by simp) t.1 t.2.1) (fun M5 u => ok_some ⟨rfl, rrel_q hr u.1 u.2.1, fun a ha => ⟨u.1.1 a (by omega) (by unfold SR; omega), u.1.2.2.1 a (by omega)⟩, u.1.2.2.2⟩)
