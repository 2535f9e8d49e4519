/-! PURE: sums over the boats -/
def sm : Nat → (Nat → Nat) → Nat
  | 0, _ => 0
  | n + 1, f => sm n f + f n
theorem sm_congr {f g : Nat → Nat} : ∀ n, (∀ i, i < n → f i = g i) → sm n f = sm n g
  | 0, _ => rfl
  | n + 1, h => by
    show sm n f + f n = sm n g + g n
    rw [sm_congr n (fun i hi => h i (by omega)), h n (by omega)]
theorem sm_add {f g : Nat → Nat} : ∀ n, sm n (fun i => f i + g i) = sm n f + sm n g
  | 0 => rfl
  | n + 1 => by
    show sm n (fun i => f i + g i) + (f n + g n) = sm n f + f n + (sm n g + g n)
    rw [sm_add n]; omega
theorem sm_zero : ∀ n, sm n (fun _ => 0) = 0
  | 0 => rfl
  | n + 1 => by
    show sm n (fun _ => 0) + 0 = 0
    rw [sm_zero n]
theorem sm_const1 : ∀ n, sm n (fun _ => 1) = n
  | 0 => rfl
  | n + 1 => by
    show sm n (fun _ => 1) + 1 = n + 1
    rw [sm_const1 n]
theorem sm_swap {F : Nat → Nat → Nat} {m : Nat} : ∀ n, sm n (fun i => sm m (fun j => F i j)) = sm m (fun j => sm n (fun i => F i j))
  | 0 => by show 0 = _; rw [show (fun j => sm 0 (fun i => F i j)) = fun _ => 0 from rfl, sm_zero]
  | n + 1 => by
    show sm n (fun i => sm m (fun j => F i j)) + sm m (fun j => F n j) = sm m (fun j => sm n (fun i => F i j) + F n j)
    rw [sm_swap n, sm_add]
theorem sm_one {b : Nat} {f : Nat → Nat} : ∀ n, sm n (fun i => if i = b then f i else 0) = if b < n then f b else 0
  | 0 => rfl
  | n + 1 => by
    show sm n (fun i => if i = b then f i else 0) + (if n = b then f n else 0) = _
    rw [sm_one n]
    by_cases c : n = b
    · subst c
      rw [if_neg (by omega), if_pos rfl, if_pos (by omega)]; omega
    · rw [if_neg c]
      by_cases d : b < n
      · rw [if_pos d, if_pos (by omega)]; omega
      · rw [if_neg d, if_neg (by omega)]
theorem sm_le {f : Nat → Nat} : ∀ n, (∀ i, i < n → f i ≤ 1) → sm n f ≤ n
  | 0, _ => Nat.le_refl _
  | n + 1, h => by
    have := sm_le n (fun i hi => h i (by omega))
    have := h n (by omega)
    show sm n f + f n ≤ n + 1
    omega
theorem sm_full {f : Nat → Nat} : ∀ n, (∀ i, i < n → f i ≤ 1) → sm n f = n → ∀ i, i < n → f i = 1
  | 0, _, _ => fun i hi => absurd hi (Nat.not_lt_zero _)
  | n + 1, h, e => fun i hi => by
    have h1 := sm_le n (fun i hi => h i (by omega))
    have h2 := h n (by omega)
    have e : sm n f + f n = n + 1 := e
    by_cases c : i = n
    · subst c; omega
    · exact sm_full n (fun i hi => h i (by omega)) (by omega) i (by omega)
theorem sm_mul {P : Nat → Bool} {c : Nat} : ∀ n, sm n (fun i => if P i = true then c else 0) = c * sm n (fun i => if P i = true then 1 else 0)
  | 0 => rfl
  | n + 1 => by
    show sm n (fun i => if P i = true then c else 0) + (if P n = true then c else 0) = c * (sm n (fun i => if P i = true then 1 else 0) + (if P n = true then 1 else 0))
    rw [sm_mul n, Nat.mul_add]
    cases P n <;> simp
theorem prm_le1 {n b : Nat} {g : Nat → Nat} (h : Prm n g) : ∀ m, m ≤ n → sm m (fun i => if decide (b = g i) = true then 1 else 0) ≤ 1 ∧ (sm m (fun i => if decide (b = g i) = true then 1 else 0) = 0 ∨ ∃ i, i < m ∧ b = g i)
  | 0, _ => ⟨Nat.zero_le _, Or.inl rfl⟩
  | m + 1, hm => by
    obtain ⟨h1, h2⟩ := prm_le1 (b := b) h m (by omega)
    show sm m (fun i => if decide (b = g i) = true then 1 else 0) + (if decide (b = g m) = true then 1 else 0) ≤ 1 ∧ (sm m (fun i => if decide (b = g i) = true then 1 else 0) + (if decide (b = g m) = true then 1 else 0) = 0 ∨ _)
    by_cases c : b = g m
    · rw [if_pos (decide_eq_true c)]
      rcases h2 with h2 | ⟨i, hi, e⟩
      · exact ⟨by omega, Or.inr ⟨m, by omega, c⟩⟩
      · have := h.2 i m (by omega) (by omega) (by rw [← e, ← c])
        omega
    · rw [if_neg (fun q => c (of_decide_eq_true q))]
      refine ⟨by omega, ?_⟩
      rcases h2 with h2 | ⟨i, hi, e⟩
      · exact Or.inl (by omega)
      · exact Or.inr ⟨i, by omega, e⟩
theorem prm_one {n : Nat} {g : Nat → Nat} (h : Prm n g) : ∀ b, b < n → sm n (fun i => if decide (b = g i) = true then 1 else 0) = 1 := by
  refine sm_full (f := fun b => sm n (fun i => if decide (b = g i) = true then 1 else 0)) n (fun b _ => (prm_le1 h n (Nat.le_refl _)).1) ?_
  rw [← sm_swap (F := fun i b => if decide (b = g i) = true then 1 else 0)]
  refine (sm_congr (g := fun _ => 1) n (fun i hi => ?_)).trans (sm_const1 n)
  have := sm_one (b := g i) (f := fun _ => 1) n
  rw [if_pos (h.1 i hi)] at this
  refine (sm_congr n (fun b _ => ?_)).trans this
  by_cases c : b = g i
  · rw [if_pos c, if_pos (decide_eq_true c)]
  · rw [if_neg c, if_neg (fun q => c (of_decide_eq_true q))]
/-- a sum over the boats is the same in any order of them -/
theorem sm_prm {n : Nat} {g f : Nat → Nat} (h : Prm n g) : sm n (fun i => f (g i)) = sm n f := by
  have e1 : sm n (fun i => f (g i)) = sm n (fun i => sm n (fun b => if decide (b = g i) = true then f b else 0)) := by
    refine sm_congr n (fun i hi => ?_)
    have := sm_one (b := g i) (f := f) n
    rw [if_pos (h.1 i hi)] at this
    rw [← this]
    refine sm_congr n (fun b _ => ?_)
    by_cases c : b = g i
    · rw [if_pos c, if_pos (decide_eq_true c)]
    · rw [if_neg c, if_neg (fun q => c (of_decide_eq_true q))]
  rw [e1, sm_swap (F := fun i b => if decide (b = g i) = true then f b else 0)]
  refine sm_congr n (fun b hb => ?_)
  rw [sm_mul (P := fun i => decide (b = g i)) (c := f b), prm_one h b hb, Nat.mul_one]
/-- and so is a sum over pairs of them -/
theorem sm_prm2 {n : Nat} {g : Nat → Nat} {F : Nat → Nat → Nat} (h : Prm n g) : sm n (fun i => sm n (fun j => F (g i) (g j))) = sm n (fun i => sm n (fun j => F i j)) := by
  rw [← sm_prm (f := fun i => sm n (fun j => F i j)) h]
  exact sm_congr n (fun i _ => sm_prm (f := fun j => F (g i) j) h)
/-- every boat is somewhere -/
theorem prm_ex {n b : Nat} {g : Nat → Nat} (h : Prm n g) (hb : b < n) : ∃ i, i < n ∧ g i = b := by
  rcases (prm_le1 (b := b) h n (Nat.le_refl _)).2 with e | ⟨i, hi, e⟩
  · have := prm_one h b hb; omega
  · exact ⟨i, hi, e.symm⟩
