/-! PURE: what a function of part 05 answers; loops; numbers; what stays -/
def Ok {α : Type} (o : Option α) (Q : α → Prop) : Prop := ∃ r, o = some r ∧ Q r
theorem ok_some {α : Type} {r : α} {Q : α → Prop} (h : Q r) : Ok (some r) Q := ⟨r, rfl, h⟩
theorem ok_eq {α : Type} {o : Option α} {r : α} {Q : α → Prop} (h : o = some r) (hq : Q r) : Ok o Q := ⟨r, h, hq⟩
theorem ok_bind {α β : Type} {o : Option α} {f : α → Option β} {Q : β → Prop} (h : Ok o fun r => Ok (f r) Q) : Ok (o.bind f) Q := by
  obtain ⟨r, rfl, h⟩ := h
  exact h
theorem ok_mono {α : Type} {o : Option α} {P Q : α → Prop} (h : Ok o P) (hq : ∀ r, P r → Q r) : Ok o Q := by
  obtain ⟨r, h1, h2⟩ := h
  exact ⟨r, h1, hq r h2⟩
theorem ok_call {α β : Type} {o : Option α} {f : α → Option β} {P : α → Prop} {Q : β → Prop} (h : Ok o P) (hq : ∀ r, P r → Ok (f r) Q) : Ok (o.bind f) Q := ok_bind (ok_mono h hq)
theorem ok_ite {α : Type} {c : Prop} [Decidable c] {a b : Option α} {Q : α → Prop} (h1 : c → Ok a Q) (h2 : ¬ c → Ok b Q) : Ok (if c then a else b) Q := by
  by_cases h : c
  · rw [if_pos h]; exact h1 h
  · rw [if_neg h]; exact h2 h
theorem ok_gd {α : Type} {c : Prop} [Decidable c] {a : Option α} {Q : α → Prop} (hc : c) (h : Ok a Q) : Ok (if c then a else none) Q := by
  rw [if_pos hc]; exact h
theorem ok_pos {α : Type} {c : Prop} [Decidable c] {a b : Option α} {Q : α → Prop} (hc : c) (h : Ok a Q) : Ok (if c then a else b) Q := by
  rw [if_pos hc]; exact h
theorem ok_neg {α : Type} {c : Prop} [Decidable c] {a b : Option α} {Q : α → Prop} (hc : ¬ c) (h : Ok b Q) : Ok (if c then a else b) Q := by
  rw [if_neg hc]; exact h
theorem ok_lt {α β : Type} {v : α} {f : α → Option β} {Q : β → Prop} (h : Ok (f v) Q) : Ok (lt v f) Q := h
/-- a loop that counts up -/
theorem ok_loop {σ R : Type} {Q : R → Prop} (n : Nat) (g : Nat → Nat → σ → Option R) (I : Nat → σ → Prop)
    (hs : ∀ fu k s, k < n → I k s → (∀ s', I (k + 1) s' → Ok (g fu (k + 1) s') Q) → Ok (g (fu + 1) k s) Q)
    (he : ∀ fu s, I n s → Ok (g (fu + 1) n s) Q) : ∀ fu k s, k ≤ n → n - k < fu → I k s → Ok (g fu k s) Q := by
  intro fu
  induction fu with
  | zero => intro k s _ h; exact absurd h (Nat.not_lt_zero _)
  | succ fu ih =>
    intro k s hk hf hi
    by_cases h : k = n
    · subst h; exact he fu s hi
    · exact hs fu k s (by omega) hi fun s' h' => ih (k + 1) s' (by omega) (by omega) h'
theorem FU_big : 2000 < FU := by unfold FU; decide
theorem FU_gt {n : Nat} (h : n < 1048576) : n < FU := h
theorem ix_nI {n : Nat} (h : n < 2 ^ 31) : ix (nI n) = n := nI_clamp h
theorem inb_nI {n N : Nat} (h : n < N) (hN : N < 2 ^ 31) : inb (nI n) N = true := by
  unfold inb
  rw [nI_toInt (by omega)]
  exact decide_eq_true ⟨by omega, by omega⟩
theorem le_nI {a b : Nat} (ha : a < 2 ^ 31) (hb : b < 2 ^ 31) : (nI a ≤ nI b) = (a ≤ b) := propext (nI_leI ha hb)
theorem lt_nI {a b : Nat} (ha : a < 2 ^ 31) (hb : b < 2 ^ 31) : (nI a < nI b) = (a < b) := propext (nI_ltI ha hb)
theorem eq_nI {a b : Nat} (ha : a < 2 ^ 31) (hb : b < 2 ^ 31) : (nI a = nI b) = (a = b) := propext (nI_eq ha hb)
theorem le_nIc {a c : Nat} (ha : a < 2 ^ 31) (hc : (OfNat.ofNat c : Nat) < 2 ^ 31) : (nI a ≤ (no_index (OfNat.ofNat c) : Int32)) = (a ≤ (OfNat.ofNat c : Nat)) := le_nI ha hc
theorem le_cnI {a c : Nat} (ha : a < 2 ^ 31) (hc : (OfNat.ofNat c : Nat) < 2 ^ 31) : ((no_index (OfNat.ofNat c) : Int32) ≤ nI a) = ((OfNat.ofNat c : Nat) ≤ a) := le_nI hc ha
theorem lt_nIc {a c : Nat} (ha : a < 2 ^ 31) (hc : (OfNat.ofNat c : Nat) < 2 ^ 31) : (nI a < (no_index (OfNat.ofNat c) : Int32)) = (a < (OfNat.ofNat c : Nat)) := lt_nI ha hc
theorem lt_cnI {a c : Nat} (ha : a < 2 ^ 31) (hc : (OfNat.ofNat c : Nat) < 2 ^ 31) : ((no_index (OfNat.ofNat c) : Int32) < nI a) = ((OfNat.ofNat c : Nat) < a) := lt_nI hc ha
theorem eq_nIc {a c : Nat} (ha : a < 2 ^ 31) (hc : (OfNat.ofNat c : Nat) < 2 ^ 31) : (nI a = (no_index (OfNat.ofNat c) : Int32)) = (a = (OfNat.ofNat c : Nat)) := eq_nI ha hc
theorem eq_cnI {a c : Nat} (ha : a < 2 ^ 31) (hc : (OfNat.ofNat c : Nat) < 2 ^ 31) : ((no_index (OfNat.ofNat c) : Int32) = nI a) = ((OfNat.ofNat c : Nat) = a) := eq_nI hc ha
theorem add_nIc (a c : Nat) : nI a + (no_index (OfNat.ofNat c) : Int32) = nI (a + (OfNat.ofNat c : Nat)) := nI_add a c
theorem add_cnI (a c : Nat) : (no_index (OfNat.ofNat c) : Int32) + nI a = nI ((OfNat.ofNat c : Nat) + a) := nI_add c a
theorem inb_c {c N : Nat} (h : (OfNat.ofNat c : Nat) < N) (hN : N < 2 ^ 31) : inb (no_index (OfNat.ofNat c) : Int32) N = true := inb_nI h hN
theorem ix_c {c : Nat} (h : (OfNat.ofNat c : Nat) < 2 ^ 31) : ix (no_index (OfNat.ofNat c) : Int32) = (OfNat.ofNat c : Nat) := ix_nI h
theorem leT {a b : Nat} (h : a ≤ b) (ha : a < 2 ^ 31) (hb : b < 2 ^ 31) : (nI a ≤ nI b) = True := by
  refine (show (nI a ≤ nI b) = (a ≤ b) from le_nI ha hb).trans (eq_true h)
theorem leF {a b : Nat} (h : ¬ a ≤ b) (ha : a < 2 ^ 31) (hb : b < 2 ^ 31) : (nI a ≤ nI b) = False := by
  refine (show (nI a ≤ nI b) = (a ≤ b) from le_nI ha hb).trans (eq_false h)
theorem leTc {a c : Nat} (h : a ≤ (OfNat.ofNat c : Nat)) (ha : a < 2 ^ 31) (hc : (OfNat.ofNat c : Nat) < 2 ^ 31) : (nI a ≤ (no_index (OfNat.ofNat c) : Int32)) = True := by
  refine (show (nI a ≤ (no_index (OfNat.ofNat c) : Int32)) = (a ≤ (OfNat.ofNat c : Nat)) from le_nI ha hc).trans (eq_true h)
theorem leFc {a c : Nat} (h : ¬ a ≤ (OfNat.ofNat c : Nat)) (ha : a < 2 ^ 31) (hc : (OfNat.ofNat c : Nat) < 2 ^ 31) : (nI a ≤ (no_index (OfNat.ofNat c) : Int32)) = False := by
  refine (show (nI a ≤ (no_index (OfNat.ofNat c) : Int32)) = (a ≤ (OfNat.ofNat c : Nat)) from le_nI ha hc).trans (eq_false h)
theorem leTd {a c : Nat} (h : (OfNat.ofNat c : Nat) ≤ a) (ha : a < 2 ^ 31) (hc : (OfNat.ofNat c : Nat) < 2 ^ 31) : ((no_index (OfNat.ofNat c) : Int32) ≤ nI a) = True := by
  refine (show ((no_index (OfNat.ofNat c) : Int32) ≤ nI a) = ((OfNat.ofNat c : Nat) ≤ a) from le_nI hc ha).trans (eq_true h)
theorem leFd {a c : Nat} (h : ¬ (OfNat.ofNat c : Nat) ≤ a) (ha : a < 2 ^ 31) (hc : (OfNat.ofNat c : Nat) < 2 ^ 31) : ((no_index (OfNat.ofNat c) : Int32) ≤ nI a) = False := by
  refine (show ((no_index (OfNat.ofNat c) : Int32) ≤ nI a) = ((OfNat.ofNat c : Nat) ≤ a) from le_nI hc ha).trans (eq_false h)
theorem ltT {a b : Nat} (h : a < b) (ha : a < 2 ^ 31) (hb : b < 2 ^ 31) : (nI a < nI b) = True := by
  refine (show (nI a < nI b) = (a < b) from lt_nI ha hb).trans (eq_true h)
theorem ltF {a b : Nat} (h : ¬ a < b) (ha : a < 2 ^ 31) (hb : b < 2 ^ 31) : (nI a < nI b) = False := by
  refine (show (nI a < nI b) = (a < b) from lt_nI ha hb).trans (eq_false h)
theorem ltTc {a c : Nat} (h : a < (OfNat.ofNat c : Nat)) (ha : a < 2 ^ 31) (hc : (OfNat.ofNat c : Nat) < 2 ^ 31) : (nI a < (no_index (OfNat.ofNat c) : Int32)) = True := by
  refine (show (nI a < (no_index (OfNat.ofNat c) : Int32)) = (a < (OfNat.ofNat c : Nat)) from lt_nI ha hc).trans (eq_true h)
theorem ltFc {a c : Nat} (h : ¬ a < (OfNat.ofNat c : Nat)) (ha : a < 2 ^ 31) (hc : (OfNat.ofNat c : Nat) < 2 ^ 31) : (nI a < (no_index (OfNat.ofNat c) : Int32)) = False := by
  refine (show (nI a < (no_index (OfNat.ofNat c) : Int32)) = (a < (OfNat.ofNat c : Nat)) from lt_nI ha hc).trans (eq_false h)
theorem ltTd {a c : Nat} (h : (OfNat.ofNat c : Nat) < a) (ha : a < 2 ^ 31) (hc : (OfNat.ofNat c : Nat) < 2 ^ 31) : ((no_index (OfNat.ofNat c) : Int32) < nI a) = True := by
  refine (show ((no_index (OfNat.ofNat c) : Int32) < nI a) = ((OfNat.ofNat c : Nat) < a) from lt_nI hc ha).trans (eq_true h)
theorem ltFd {a c : Nat} (h : ¬ (OfNat.ofNat c : Nat) < a) (ha : a < 2 ^ 31) (hc : (OfNat.ofNat c : Nat) < 2 ^ 31) : ((no_index (OfNat.ofNat c) : Int32) < nI a) = False := by
  refine (show ((no_index (OfNat.ofNat c) : Int32) < nI a) = ((OfNat.ofNat c : Nat) < a) from lt_nI hc ha).trans (eq_false h)
theorem eqT {a b : Nat} (h : a = b) (ha : a < 2 ^ 31) (hb : b < 2 ^ 31) : (nI a = nI b) = True := by
  refine (show (nI a = nI b) = (a = b) from eq_nI ha hb).trans (eq_true h)
theorem eqF {a b : Nat} (h : ¬ a = b) (ha : a < 2 ^ 31) (hb : b < 2 ^ 31) : (nI a = nI b) = False := by
  refine (show (nI a = nI b) = (a = b) from eq_nI ha hb).trans (eq_false h)
theorem eqTc {a c : Nat} (h : a = (OfNat.ofNat c : Nat)) (ha : a < 2 ^ 31) (hc : (OfNat.ofNat c : Nat) < 2 ^ 31) : (nI a = (no_index (OfNat.ofNat c) : Int32)) = True := by
  refine (show (nI a = (no_index (OfNat.ofNat c) : Int32)) = (a = (OfNat.ofNat c : Nat)) from eq_nI ha hc).trans (eq_true h)
theorem eqFc {a c : Nat} (h : ¬ a = (OfNat.ofNat c : Nat)) (ha : a < 2 ^ 31) (hc : (OfNat.ofNat c : Nat) < 2 ^ 31) : (nI a = (no_index (OfNat.ofNat c) : Int32)) = False := by
  refine (show (nI a = (no_index (OfNat.ofNat c) : Int32)) = (a = (OfNat.ofNat c : Nat)) from eq_nI ha hc).trans (eq_false h)
theorem eqTd {a c : Nat} (h : (OfNat.ofNat c : Nat) = a) (ha : a < 2 ^ 31) (hc : (OfNat.ofNat c : Nat) < 2 ^ 31) : ((no_index (OfNat.ofNat c) : Int32) = nI a) = True := by
  refine (show ((no_index (OfNat.ofNat c) : Int32) = nI a) = ((OfNat.ofNat c : Nat) = a) from eq_nI hc ha).trans (eq_true h)
theorem eqFd {a c : Nat} (h : ¬ (OfNat.ofNat c : Nat) = a) (ha : a < 2 ^ 31) (hc : (OfNat.ofNat c : Nat) < 2 ^ 31) : ((no_index (OfNat.ofNat c) : Int32) = nI a) = False := by
  refine (show ((no_index (OfNat.ofNat c) : Int32) = nI a) = ((OfNat.ofNat c : Nat) = a) from eq_nI hc ha).trans (eq_false h)
theorem eqFcc {c d : Nat} (h : ¬ (OfNat.ofNat c : Nat) = (OfNat.ofNat d : Nat)) (hc : (OfNat.ofNat c : Nat) < 2 ^ 31) (hd : (OfNat.ofNat d : Nat) < 2 ^ 31) : ((no_index (OfNat.ofNat c) : Int32) = (no_index (OfNat.ofNat d) : Int32)) = False := eqF h hc hd
theorem m1e0 : ((-1 : Int32) = 0) = False := by decide
theorem m1e1 : ((-1 : Int32) = 1) = False := by decide
theorem m1l0 : ((-1 : Int32) < 0) = True := by decide
theorem m1g0 : ((0 : Int32) ≤ -1) = False := by decide
theorem m2l0 : ((-2 : Int32) < 0) = True := by decide
theorem m2g0 : ((0 : Int32) ≤ -2) = False := by decide
theorem nI_m1 (k : Nat) : nI k + (-1) = nI k - 1 := by rw [Int32.sub_eq_add_neg]
theorem m1_0 : nI 0 - 1 = -1 := by decide
theorem m1_lt {k : Nat} (h : k < 2 ^ 31) : (nI k - 1 < 0) = (k = 0) := by
  cases k with
  | zero => simp [m1_0]
  | succ k => rw [nI_pred]; exact propext ⟨fun q => absurd q (nI_pos (by omega)), fun q => absurd q (Nat.succ_ne_zero k)⟩
theorem m1T {k : Nat} (h : k = 0) : (nI k - 1 < 0) = True := by subst h; simp [m1_0]
theorem m1F {k : Nat} (h : k ≠ 0) (hk : k < 2 ^ 31) : (nI k - 1 < 0) = False := by rw [m1_lt hk]; exact eq_false h
theorem m1T' {k : Nat} (h : k ≠ 0) (hk : k < 2 ^ 31) : (0 ≤ nI k - 1) = True := by
  obtain ⟨j, rfl⟩ : ∃ j, k = j + 1 := ⟨k - 1, by omega⟩
  rw [nI_pred]; exact eq_true (nI_pos' (by omega))
theorem m1F' {k : Nat} (h : k = 0) : (0 ≤ nI k - 1) = False := by subst h; simp [m1_0]
/-- what stays -/
def Fr (P : Nat → Prop) (M M' : Mem) : Prop := (∀ a, ¬ P a → M'.1 a = M.1 a) ∧ M'.2 = M.2
theorem fr_rfl {P : Nat → Prop} {M : Mem} : Fr P M M := ⟨fun _ _ => rfl, rfl⟩
theorem fr_trans {P : Nat → Prop} {M M' M'' : Mem} (h : Fr P M M') (h' : Fr P M' M'') : Fr P M M'' := ⟨fun a ha => (h'.1 a ha).trans (h.1 a ha), h'.2.trans h.2⟩
theorem fr_sub {P Q : Nat → Prop} {M M' : Mem} (h : Fr P M M') (hs : ∀ a, P a → Q a) : Fr Q M M' := ⟨fun a ha => h.1 a fun q => ha (hs a q), h.2⟩
theorem fr_sI {P : Nat → Prop} {M : Mem} {a i : Nat} {v : Int32} (h : P a) : Fr P M (sI M a i v) := ⟨fun b hb => up2_row (fun q => hb (q ▸ h)), rfl⟩
theorem sI_1 {M : Mem} {a i : Nat} {v : Int32} : (sI M a i v).1 = up2 M.1 a i v := rfl
theorem sI_2 {M : Mem} {a i : Nat} {v : Int32} : (sI M a i v).2 = M.2 := rfl
/-- the next one going ahead, behind (0: none; else one more than its place) -/
def na (G : Nat → Bool) : Nat → Nat
  | 0 => 0
  | k + 1 => if G k then k + 1 else na G k
def nx (G : Nat → Bool) (n : Nat) : Nat → Nat
  | 0 => 0
  | d + 1 => if G (n - (d + 1)) then n - (d + 1) + 1 else nx G n d
theorem na_le (G : Nat → Bool) : ∀ k, na G k ≤ k
  | 0 => Nat.le_refl _
  | k + 1 => by
    have := na_le G k
    unfold na
    split <;> omega
theorem na_go (G : Nat → Bool) : ∀ k, na G k ≠ 0 → G (na G k - 1) = true
  | 0 => fun h => absurd rfl h
  | k + 1 => by
    have := na_go G k
    unfold na
    split
    · intro _; assumption
    · exact this
theorem nx_le (G : Nat → Bool) (n : Nat) : ∀ d, d ≤ n → nx G n d ≤ n
  | 0 => fun _ => Nat.zero_le _
  | d + 1 => fun h => by
    have := nx_le G n d (by omega)
    unfold nx
    split <;> omega
def bI (b : Bool) : Int32 := if b = true then 1 else 0
theorem bI_0 {b : Bool} : (bI b = 0) = (b = false) := by cases b <;> simp [bI]
theorem c_nextAhead {M : Mem} {G : Nat → Bool} {n : Nat} (hn : n ≤ 6) (hg : ∀ k, k < n → M.1 110 k = bI (G k)) : ∀ (k fu : Nat), k < fu → k ≤ n → fX3_nextAhead_4 fu (nI k - 1) M = some (nI (na G k) - 1, M) := by
  intro k
  induction k with
  | zero =>
    intro fu hf _
    obtain ⟨fu, rfl⟩ : ∃ m, fu = m + 1 := ⟨fu - 1, by omega⟩
    simp (disch := omega) only [↓reduceIte, ic_t, ic_f, not_true_eq_false, not_false_eq_true, ↓lt_v, leT, leTc, leTd, leF, leFc, leFd, ltT, ltTc, ltTd, ltF, ltFc, ltFd, eqT, eqTc, eqTd, eqF, eqFc, eqFd, m1T, m1F, m1T', m1F', inb_nI, ix_nI, inb_c, ix_c, nI_1, nI_pred, nI_m1, add_nIc, add_cnI, bd_v, reduceCtorEq, eqFcc, m1e0, m1e1, m1l0, m1g0, m2l0, m2g0, Int32.reduceLT, Int32.reduceLE, Int32.reduceAdd, Int32.reduceSub, Int32.reduceMul, eq_self, Bool.false_eq_true, e_X3_nextAhead_4, na]; rfl
  | succ k ih =>
    intro fu hf hk
    obtain ⟨fu, rfl⟩ : ∃ m, fu = m + 1 := ⟨fu - 1, by omega⟩
    simp (disch := omega) only [↓reduceIte, ic_t, ic_f, not_true_eq_false, not_false_eq_true, ↓lt_v, leT, leTc, leTd, leF, leFc, leFd, ltT, ltTc, ltTd, ltF, ltFc, ltFd, eqT, eqTc, eqTd, eqF, eqFc, eqFd, m1T, m1F, m1T', m1F', inb_nI, ix_nI, inb_c, ix_c, nI_1, nI_pred, nI_m1, add_nIc, add_cnI, bd_v, reduceCtorEq, eqFcc, m1e0, m1e1, m1l0, m1g0, m2l0, m2g0, Int32.reduceLT, Int32.reduceLE, Int32.reduceAdd, Int32.reduceSub, Int32.reduceMul, eq_self, Bool.false_eq_true, e_X3_nextAhead_4, hg, bI_0, na, ih]
    cases h : G k <;> simp (disch := omega) only [↓reduceIte, ic_t, ic_f, not_true_eq_false, not_false_eq_true, ↓lt_v, leT, leTc, leTd, leF, leFc, leFd, ltT, ltTc, ltTd, ltF, ltFc, ltFd, eqT, eqTc, eqTd, eqF, eqFc, eqFd, m1T, m1F, m1T', m1F', inb_nI, ix_nI, inb_c, ix_c, nI_1, nI_pred, nI_m1, add_nIc, add_cnI, bd_v, reduceCtorEq, eqFcc, m1e0, m1e1, m1l0, m1g0, m2l0, m2g0, Int32.reduceLT, Int32.reduceLE, Int32.reduceAdd, Int32.reduceSub, Int32.reduceMul, eq_self, Bool.false_eq_true, ih]
theorem c_nextAhead' {M : Mem} {G : Nat → Bool} {n k : Nat} (hn : n ≤ 6) (hg : ∀ k, k < n → M.1 110 k = bI (G k)) (hk : k ≤ n) : fX3_nextAhead (nI k) M = some (nI (na G k) - 1, M) := by
  unfold fX3_nextAhead
  exact c_nextAhead hn hg k FU (FU_gt (by omega)) hk
theorem c_nextBehind {M : Mem} {G : Nat → Bool} {n : Nat} (hn : n ≤ 6) (hp : M.1 108 0 = nI n) (hg : ∀ k, k < n → M.1 110 k = bI (G k)) : ∀ (d fu : Nat), d < fu → d ≤ n → fX3_nextBehind_4 fu (nI (n - d)) M = some (nI (nx G n d) - 1, M) := by
  intro d
  induction d with
  | zero =>
    intro fu hf _
    obtain ⟨fu, rfl⟩ : ∃ m, fu = m + 1 := ⟨fu - 1, by omega⟩
    simp (disch := omega) only [↓reduceIte, ic_t, ic_f, not_true_eq_false, not_false_eq_true, ↓lt_v, leT, leTc, leTd, leF, leFc, leFd, ltT, ltTc, ltTd, ltF, ltFc, ltFd, eqT, eqTc, eqTd, eqF, eqFc, eqFd, m1T, m1F, m1T', m1F', inb_nI, ix_nI, inb_c, ix_c, nI_1, nI_pred, nI_m1, add_nIc, add_cnI, bd_v, reduceCtorEq, eqFcc, m1e0, m1e1, m1l0, m1g0, m2l0, m2g0, Int32.reduceLT, Int32.reduceLE, Int32.reduceAdd, Int32.reduceSub, Int32.reduceMul, eq_self, Bool.false_eq_true, e_X3_nextBehind_4, hp, nx]; rfl
  | succ d ih =>
    intro fu hf hk
    obtain ⟨fu, rfl⟩ : ∃ m, fu = m + 1 := ⟨fu - 1, by omega⟩
    have e : n - (d + 1) + 1 = n - d := by omega
    simp (disch := omega) only [↓reduceIte, ic_t, ic_f, not_true_eq_false, not_false_eq_true, ↓lt_v, leT, leTc, leTd, leF, leFc, leFd, ltT, ltTc, ltTd, ltF, ltFc, ltFd, eqT, eqTc, eqTd, eqF, eqFc, eqFd, m1T, m1F, m1T', m1F', inb_nI, ix_nI, inb_c, ix_c, nI_1, nI_pred, nI_m1, add_nIc, add_cnI, bd_v, reduceCtorEq, eqFcc, m1e0, m1e1, m1l0, m1g0, m2l0, m2g0, Int32.reduceLT, Int32.reduceLE, Int32.reduceAdd, Int32.reduceSub, Int32.reduceMul, eq_self, Bool.false_eq_true, e_X3_nextBehind_4, hp, hg, bI_0, nx, e]
    cases h : G (n - (d + 1)) <;> simp (disch := omega) only [↓reduceIte, ic_t, ic_f, not_true_eq_false, not_false_eq_true, ↓lt_v, leT, leTc, leTd, leF, leFc, leFd, ltT, ltTc, ltTd, ltF, ltFc, ltFd, eqT, eqTc, eqTd, eqF, eqFc, eqFd, m1T, m1F, m1T', m1F', inb_nI, ix_nI, inb_c, ix_c, nI_1, nI_pred, nI_m1, add_nIc, add_cnI, bd_v, reduceCtorEq, eqFcc, m1e0, m1e1, m1l0, m1g0, m2l0, m2g0, Int32.reduceLT, Int32.reduceLE, Int32.reduceAdd, Int32.reduceSub, Int32.reduceMul, eq_self, Bool.false_eq_true, ih]
    rw [← e, nI_pred]
