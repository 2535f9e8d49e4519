/-! PURE: how many pairs crossed -/
def tr : Nat → (Nat → Nat → Nat) → Nat
  | 0, _ => 0
  | n + 1, F => tr n F + sm n (fun j => F n j)
theorem tr_congr {F G : Nat → Nat → Nat} : ∀ n, (∀ i j, i < n → j < i → F i j = G i j) → tr n F = tr n G
  | 0, _ => rfl
  | n + 1, h => by
    show tr n F + sm n (fun j => F n j) = tr n G + sm n (fun j => G n j)
    rw [tr_congr n (fun i j hi hj => h i j (by omega) hj), sm_congr n (fun j hj => h n j (by omega) hj)]
theorem tr2 {F : Nat → Nat → Nat} : ∀ n, (∀ i j, i < n → j < n → F i j = F j i) → (∀ i, i < n → F i i = 0) → sm n (fun i => sm n (fun j => F i j)) = 2 * tr n F
  | 0, _, _ => rfl
  | n + 1, hs, hz => by
    have ih := tr2 n (fun i j hi hj => hs i j (by omega) (by omega)) (fun i hi => hz i (by omega))
    show sm n (fun i => sm n (fun j => F i j) + F i n) + (sm n (fun j => F n j) + F n n) = 2 * (tr n F + sm n (fun j => F n j))
    rw [sm_add, ih, hz n (by omega), sm_congr (f := fun i => F i n) (g := fun j => F n j) n (fun i hi => hs i n (by omega) (by omega))]
    omega
/-- the class counts pairs of places of the new order, the reference pairs of boats -/
theorem cross_eq {n : Nat} {g gi pl : Nat → Nat} (hg : Prm n g) (hgi : ∀ i, i < n → gi (g i) = i) (hpl : ∀ a b, a < n → b < n → pl a = pl b → a = b) : tr n (fun i j => if pl (g j) ≤ pl (g i) then 0 else 1) = tr n (fun a b => if decide (pl b ≤ pl a) = decide (gi b ≤ gi a) then 0 else 1) := by
  have hgj : ∀ a b, a < n → b < n → gi a = gi b → a = b := fun a b ha hb e => by
    obtain ⟨i, hi, rfl⟩ := prm_ex hg ha
    obtain ⟨j, hj, rfl⟩ := prm_ex hg hb
    rw [hgi i hi, hgi j hj] at e
    rw [e]
  have sym : ∀ a b, a < n → b < n → (if decide (pl b ≤ pl a) = decide (gi b ≤ gi a) then 0 else 1) = (if decide (pl a ≤ pl b) = decide (gi a ≤ gi b) then 0 else 1) := by
    intro a b ha hb
    by_cases c : a = b
    · rw [c]
    · have h1 : pl a ≠ pl b := fun e => c (hpl a b ha hb e)
      have h2 : gi a ≠ gi b := fun e => c (hgj a b ha hb e)
      have e1 : decide (pl a ≤ pl b) = !decide (pl b ≤ pl a) := by
        by_cases d : pl b ≤ pl a
        · rw [decide_eq_true d, decide_eq_false (by omega)]; rfl
        · rw [decide_eq_false d, decide_eq_true (by omega)]; rfl
      have e2 : decide (gi a ≤ gi b) = !decide (gi b ≤ gi a) := by
        by_cases d : gi b ≤ gi a
        · rw [decide_eq_true d, decide_eq_false (by omega)]; rfl
        · rw [decide_eq_false d, decide_eq_true (by omega)]; rfl
      rw [e1, e2]
      cases decide (pl b ≤ pl a) <;> cases decide (gi b ≤ gi a) <;> rfl
  have zero : ∀ a, (if decide (pl a ≤ pl a) = decide (gi a ≤ gi a) then 0 else 1) = 0 := fun a => by
    rw [decide_eq_true (Nat.le_refl (pl a)), decide_eq_true (Nat.le_refl (gi a)), if_pos rfl]
  have t1 := tr2 (F := fun a b => if decide (pl b ≤ pl a) = decide (gi b ≤ gi a) then 0 else 1) n sym (fun a _ => zero a)
  have t2 := tr2 (F := fun i j => if decide (pl (g j) ≤ pl (g i)) = decide (gi (g j) ≤ gi (g i)) then 0 else 1) n (fun i j hi hj => sym (g i) (g j) (hg.1 i hi) (hg.1 j hj)) (fun i _ => zero (g i))
  have t3 := sm_prm2 (F := fun a b => if decide (pl b ≤ pl a) = decide (gi b ≤ gi a) then 0 else 1) hg
  have t4 : tr n (fun i j => if pl (g j) ≤ pl (g i) then 0 else 1) = tr n (fun i j => if decide (pl (g j) ≤ pl (g i)) = decide (gi (g j) ≤ gi (g i)) then 0 else 1) := by
    refine tr_congr n (fun i j hi hj => ?_)
    rw [hgi i hi, hgi j (by omega), decide_eq_true (show j ≤ i by omega)]
    by_cases d : pl (g j) ≤ pl (g i)
    · rw [if_pos d, if_pos (decide_eq_true d)]
    · rw [if_neg d, if_neg (fun q => d (of_decide_eq_true q))]
  rw [t4]
  omega
