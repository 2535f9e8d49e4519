/-! PURE: equal numbers, equal orders -/
theorem sm_mono {f g : Nat → Nat} : ∀ n, (∀ i, i < n → f i ≤ g i) → sm n f ≤ sm n g
  | 0, _ => Nat.le_refl _
  | n + 1, h => by
    have h1 := sm_mono n (fun i hi => h i (by omega))
    have h2 := h n (by omega)
    show sm n f + f n ≤ sm n g + g n
    omega
theorem sm_ltx {x : Nat} : ∀ m, sm m (fun b => if b < x then 1 else 0) = min m x
  | 0 => by show 0 = _; omega
  | m + 1 => by
    show sm m (fun b => if b < x then 1 else 0) + (if m < x then 1 else 0) = _
    rw [sm_ltx m]
    by_cases c : m < x
    · rw [if_pos c]; omega
    · rw [if_neg c]; omega
theorem sm_btw {x y : Nat} : ∀ m, sm m (fun b => if x < b ∧ b < y then 1 else 0) ≤ min m y - x - 1
  | 0 => Nat.zero_le _
  | m + 1 => by
    have ih := sm_btw (x := x) (y := y) m
    show sm m (fun b => if x < b ∧ b < y then 1 else 0) + (if x < m ∧ m < y then 1 else 0) ≤ _
    by_cases c : x < m ∧ m < y
    · rw [if_pos c]; omega
    · rw [if_neg c]; omega
/-- a boat's number: how many smaller ones stand before it, and how many behind it -/
theorem cs_split {n i : Nat} {o : Nat → Nat} (h : Prm n o) (hi : i < n) : o i = sm n (fun j => if j < i ∧ o j < o i then 1 else 0) + cs n o i := by
  have e := sm_prm (f := fun b => if b < o i then 1 else 0) h
  rw [sm_ltx, show min n (o i) = o i by have := h.1 i hi; omega] at e
  unfold cs
  rw [← sm_add]
  refine e.symm.trans (sm_congr n (fun j hj => ?_))
  show (if o j < o i then 1 else 0) = (if j < i ∧ o j < o i then 1 else 0) + (if i < j ∧ o j < o i then 1 else 0)
  by_cases c : o j < o i
  · have : j ≠ i := fun q => by rw [q] at c; omega
    rw [if_pos c]
    by_cases d : j < i
    · rw [if_pos ⟨d, c⟩, if_neg (fun q => by omega)]
    · rw [if_neg (fun q => d q.1), if_pos ⟨by omega, c⟩]
  · rw [if_neg c, if_neg (fun q => c q.2), if_neg (fun q => c q.2)]
theorem cs_less {n i : Nat} {o p : Nat → Nat} (ho : Prm n o) (hp : Prm n p) (hi : i < n) (ag : ∀ j, j < i → o j = p j) (e : cs n o i = cs n p i) : ¬ o i < p i := by
  intro hlt
  have s1 := cs_split ho hi
  have s2 := cs_split hp hi
  have e2 : sm n (fun j => if j < i ∧ p j < p i then 1 else 0) ≤ sm n (fun j => (if j < i ∧ o j < o i then 1 else 0) + (if o i < o j ∧ o j < p i then 1 else 0)) := by
    refine sm_mono n (fun j hj => ?_)
    show (if j < i ∧ p j < p i then 1 else 0) ≤ (if j < i ∧ o j < o i then 1 else 0) + (if o i < o j ∧ o j < p i then 1 else 0)
    by_cases c : j < i ∧ p j < p i
    · have a := ag j c.1
      have ne : o j ≠ o i := fun q => by have := ho.2 j i hj hi q; omega
      rw [if_pos c]
      by_cases d : o j < o i
      · rw [if_pos ⟨c.1, d⟩]; omega
      · rw [if_neg (fun q => d q.2), if_pos ⟨by omega, by omega⟩]; omega
    · rw [if_neg c]; omega
  rw [sm_add] at e2
  have e3 := sm_prm (f := fun b => if o i < b ∧ b < p i then 1 else 0) ho
  have e4 := sm_btw (x := o i) (y := p i) n
  have b1 := hp.1 i hi
  have e3 : sm n (fun j => if o i < o j ∧ o j < p i then 1 else 0) = sm n (fun b => if o i < b ∧ b < p i then 1 else 0) := e3
  omega
theorem lh_inj {n : Nat} {o p : Nat → Nat} (hn : n ≤ 6) (ho : Prm n o) (hp : Prm n p) (e : lh n o n = lh n p n) : ∀ i, i < n → o i = p i := by
  have hc := lh_cs hn e
  intro i
  induction i using Nat.strongRecOn with
  | _ i ih =>
    intro hi
    have ag : ∀ j, j < i → o j = p j := fun j hj => ih j hj (by omega)
    have h1 := cs_less ho hp hi ag (hc i hi)
    have h2 := cs_less hp ho hi (fun j hj => (ag j hj).symm) (hc i hi).symm
    omega
