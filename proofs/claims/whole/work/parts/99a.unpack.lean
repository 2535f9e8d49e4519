/-! PURE: orders by their numbers -/
def allB : Nat → (Nat → Bool) → Bool
  | 0, _ => true
  | n + 1, f => allB n f && f n
theorem allB_i {f : Nat → Bool} : ∀ n, allB n f = true → ∀ i, i < n → f i = true
  | 0, _ => fun i hi => absurd hi (Nat.not_lt_zero _)
  | n + 1, h => fun i hi => by
    have h : (allB n f && f n) = true := h
    rw [Bool.and_eq_true] at h
    by_cases e : i = n
    · subst e; exact h.2
    · exact allB_i n h.1 i (by omega)
theorem allB_m {f : Nat → Bool} : ∀ n, (∀ i, i < n → f i = true) → allB n f = true
  | 0, _ => rfl
  | n + 1, h => by
    show (allB n f && f n) = true
    rw [Bool.and_eq_true]
    exact ⟨allB_m n (fun i hi => h i (by omega)), h n (by omega)⟩
/-- bit number s of f, from bit 6 - d on -/
def nbl (f : Nat) : Nat → Nat → Nat
  | 0, _ => 0
  | d + 1, s => if f.testBit (6 - (d + 1)) then (if s = 0 then 6 - (d + 1) else nbl f d (s - 1)) else nbl f d s
def uR (n j : Nat) : Nat → Nat × Nat
  | 0 => (j, 2 ^ n - 1)
  | k + 1 => ((uR n j k).1 % fac (n - 1 - k), (uR n j k).2 &&& (63 ^^^ 2 ^ nbl (uR n j k).2 6 ((uR n j k).1 / fac (n - 1 - k))))
def un (n j k : Nat) : Nat := nbl (uR n j k).2 6 ((uR n j k).1 / fac (n - 1 - k))
def chk1 (n : Nat) : Bool := allB (fac n) (fun j => allB n (fun k => decide (un n j k < n) && decide ((uR n j k).1 / fac (n - 1 - k) < 6) && allB k (fun i => un n j i != un n j k)) && (lh n (un n j) n == j))
theorem chk1_ok : allB 7 chk1 = true := by decide +kernel
