/-! PURE: class: the tables of lawful sets -/
def sNT : List (List Nat) := [[0], [0], [0, 1], [0, 1, 2], [0, 1, 2, 6, 7, 23], [0, 1, 2, 6, 7, 23, 24, 25, 26, 86], [0, 1, 2, 6, 7, 23, 24, 25, 26, 86, 120, 121, 122, 126, 127, 143, 414, 415, 659, 719]]
def sN (n s : Nat) : Nat := (sNT.getD n []).getD s 0
def fS1 (n j : Nat) (q : Nat × Nat × Nat) : Option (Nat × Nat × Nat) := if lawB n (un n j) = true then (if sN n q.1 = j ∧ q.1 < 20 then some (q.1 + 1, max q.2.1 (prs n (un n j)), if q.2.1 < prs n (un n j) then 1 else if prs n (un n j) = q.2.1 then q.2.2 + 1 else q.2.2) else none) else some q
def fS (n : Nat) : Nat → Option (Nat × Nat × Nat)
  | 0 => some (0, 0, 0)
  | j + 1 => (fS n j).bind (fS1 n j)
theorem fS_ok : ∀ n, n < 7 → fS n (fac n) = some (setsN n, mostN n, alikeN n) := by decide +kernel
