/-! PURE: what binds class and reference -/
def setsN (m : Nat) : Nat := [1, 1, 2, 3, 6, 10, 20].getD m 0
def mostN (m : Nat) : Nat := [0, 0, 1, 1, 2, 2, 3].getD m 0
def alikeN (m : Nat) : Nat := [1, 1, 1, 2, 2, 5, 5].getD m 0
def fac : Nat → Nat
  | 0 => 1
  | n + 1 => (n + 1) * fac n
def dayT (m : Nat) : Nat := [0x0, 0x0, 0x8, 0x1a448, 0x2936d26d269a25a448, 0xb236e469a6da8d24dc92369b45a6d26db6db6db6da49a8db6da6924d36d36d26e349a4492936d26d269a25a448, 0x2936d26db6e36db6da4936db9244dc6d36db6d26e46db2936d34db91b6db6db4936db6db9236db6db6db6db6dc49371271b6e34a36d26db6dc9244dc6d36db6db6db9244db4936d28db6db6db49b49c71b8e369b49a6d26db6e46db6db91b6dc6db6da71b6db91b6dc6db6da69b6da6db69a25b6d26db6db6db69a49b6db6db6db6db6db6db6db7126db6db4936db4e36db6db6db6db6db6db69b6d26d269a4a36d26db6dc71b6db6db6db4d36d36d26e349a49291b6e469b6da6d24dc8db6db69b6da6db6db6db6da69b6db6da6926db6db6db7246da4922936d26d269a25a4499236e469a6da8d24dc8e369b45a6d26db6db6db6da49a8db6da6924d36d36d26e349a4492936d26d269a25a448].getD m 0
def dayN (m j : Nat) : Nat := (dayT m >>> (3 * j)) &&& 7
/-- the class's tables of lawful sets: none yet, or those of so many places -/
def LawP (M : Mem) : Prop := M.1 115 0 = -1 ∨ ∃ m, m ≤ 6 ∧ M.1 115 0 = nI m ∧ M.1 115 1 = nI (fac m) ∧ M.1 115 2 = nI (setsN m) ∧ M.1 115 3 = nI (mostN m) ∧ M.1 115 4 = nI (alikeN m) ∧ ∀ j, j < fac m → M.1 137 j = nI (dayN m j)
def TxC (L : Nat) (f : Nat → Nat) (M : Mem) : Prop := L ≤ 80 ∧ M.1 2 1 = nI L ∧ ∀ i, i < L → f i < 256 ∧ M.1 3 i = nI (f i)
def TxR (L : Nat) (f : Nat → Nat) (M : Mem) : Prop := L ≤ 80 ∧ M.1 169 8 = nI L ∧ ∀ i, i < L → f i < 256 ∧ M.1 173 i = nI (f i)
def RwC (l : List Int64) (M : Mem) : Prop := M.1 4 1 = nI l.length ∧ ∀ i, i < l.length → M.2.1 5 i = l.getD i 0
def RwR (l : List Int64) (M : Mem) : Prop := M.1 169 1 = nI l.length ∧ ∀ i, i < l.length → M.2.1 170 i = l.getD i 0
def PsC (n P : Nat) (us : Nat → VV) (M : Mem) : Prop := P ≤ 15 ∧ M.1 26 1 = nI P ∧ (∀ i, i < 15 → ∃ c, c < 15 ∧ M.2.2 27 i = 28 + 5 * c) ∧ (∀ i j, i < 15 → j < 15 → M.2.2 27 i = M.2.2 27 j → i = j) ∧ ∀ j, j < P → RvC (M.2.2 27 j) n (us j) M
def PsR (n P : Nat) (us : Nat → VV) (M : Mem) : Prop := M.1 169 28 = nI P ∧ ∀ j, j < P → ∀ i, i < 22 → M.1 185 (22 * j + i) = (us j).1 i
def KpC (n : Nat) (ks : Nat → Bool) (kv : Nat → VV) (M : Mem) : Prop := ∀ i, i < 3 → (M.2.2 103 i = 154 + 5 * i ∧ M.1 104 i = bI (ks i)) ∧ (ks i = true → RvC (154 + 5 * i) n (kv i) M)
def KpR (n : Nat) (ks : Nat → Bool) (kv : Nat → VV) (M : Mem) : Prop := ∃ c, c ≤ n ∧ M.1 169 4 = nI c ∧ ∀ i, i < 3 → ∃ b kc, M.1 202 i = bI b ∧ kc ≤ c ∧ M.1 203 i = nI kc ∧ ks i = (b && decide (kc = c)) ∧ (ks i = true → ∀ j, j < 22 → M.1 204 (22 * i + j) = (kv i).1 j)
abbrev SP : Type := (Nat × VV × ((Nat → Int32) → Int32)) × (Nat × (Nat → Nat)) × List Int64 × (Nat × (Nat → VV)) × ((Nat → Bool) × (Nat → VV)) × (Nat × (Nat → Nat) × (Nat → Nat))
def spOK (S : SP) : Prop := WfV S.1.1 S.1.2.1 ∧ S.2.2.1.length ≤ 16 ∧ S.2.2.2.1.1 ≤ 15 ∧ (∀ j, j < S.2.2.2.1.1 → WfV S.1.1 (S.2.2.2.1.2 j)) ∧ (∀ i, S.2.2.2.2.1.1 i = true → WfV S.1.1 (S.2.2.2.2.1.2 i))
def CRel (S : SP) (M : Mem) : Prop := CR S.1.1 S.1.2.1 S.1.2.2 (M.2.2 1 17) M ∧ M.2.2 1 18 = 296 - M.2.2 1 17 ∧ TxC S.2.1.1 S.2.1.2 M ∧ RwC S.2.2.1 M ∧ PsC S.1.1 S.2.2.2.1.1 S.2.2.2.1.2 M ∧ KpC S.1.1 S.2.2.2.2.1.1 S.2.2.2.2.1.2 M ∧ HC S.2.2.2.2.2.1 S.2.2.2.2.2.2.1 S.2.2.2.2.2.2.2 M ∧ LawP M
def RRel (S : SP) (M : Mem) : Prop := RR S.1.1 S.1.2.1 S.1.2.2 M ∧ TxR S.2.1.1 S.2.1.2 M ∧ RwR S.2.2.1 M ∧ PsR S.1.1 S.2.2.2.1.1 S.2.2.2.1.2 M ∧ KpR S.1.1 S.2.2.2.2.1.1 S.2.2.2.2.1.2 M ∧ HR S.2.2.2.2.2.1 S.2.2.2.2.2.2.1 S.2.2.2.2.2.2.2 M
def Rel (M : Mem) : Prop := ∃ S, spOK S ∧ CRel S M ∧ RRel S M
/-- the class leaves the reference's cells alone, and the reference the class's -/
def CFr (M M' : Mem) : Prop := ∀ a, 169 ≤ a → M'.1 a = M.1 a ∧ M'.2.1 a = M.2.1 a
def RFr (M M' : Mem) : Prop := (∀ a, a < 169 → M'.1 a = M.1 a ∧ M'.2.1 a = M.2.1 a) ∧ M'.2.2 = M.2.2
theorem rivC_same {r n : Nat} {v : VV} {M M' : Mem} (h : RvC r n v M) (hr : r + 4 < 169) (hf : ∀ a, a < 169 → M'.1 a = M.1 a) : RvC r n v M' := rivC_fr h (fun a _ h2 => hf a (by omega))
theorem crel_fr {S : SP} {M M' : Mem} (h : CRel S M) (hf : RFr M M') : CRel S M' := by
  obtain ⟨h1, h2, h3, h4, h5, h6, h7, h8⟩ := h
  have e1 : ∀ a, a < 169 → M'.1 a = M.1 a := fun a ha => (hf.1 a ha).1
  have e3 := hf.2
  have hR := h1.2.2.2.2
  unfold CRel
  rw [e3]
  refine ⟨⟨h1.1, rivC_same h1.2.1 (by omega) e1, ruC_fr h1.2.2.1 (e1 _ (by omega)) (e1 _ (by omega)), by rw [e3], hR⟩, h2, ?_, ?_, ?_, ?_, ?_, ?_⟩
  · unfold TxC; rw [e1 2 (by omega), e1 3 (by omega)]; exact h3
  · unfold RwC; rw [e1 4 (by omega), (hf.1 5 (by omega)).2]; exact h4
  · unfold PsC; rw [e1 26 (by omega), e3]
    refine ⟨h5.1, h5.2.1, h5.2.2.1, h5.2.2.2.1, fun j hj => ?_⟩
    obtain ⟨c, hc, ec⟩ := h5.2.2.1 j (by have := h5.1; omega)
    exact rivC_same (h5.2.2.2.2 j hj) (by omega) e1
  · unfold KpC; rw [e1 104 (by omega), e3]
    exact fun i hi => ⟨(h6 i hi).1, fun hk => rivC_same ((h6 i hi).2 hk) (by omega) e1⟩
  · unfold HC; rw [e1 105 (by omega), e1 106 (by omega), e1 107 (by omega)]; exact h7
  · unfold LawP; rw [e1 115 (by omega), e1 137 (by omega)]; exact h8
theorem rrel_fr {S : SP} {M M' : Mem} (h : RRel S M) (hf : CFr M M') : RRel S M' := by
  obtain ⟨h1, h2, h3, h4, h5, h6⟩ := h
  have e1 : ∀ a, 169 ≤ a → M'.1 a = M.1 a := fun a ha => (hf a ha).1
  refine ⟨⟨h1.1, by rw [e1 169 (by omega)]; exact h1.2.1, by rw [e1 171 (by omega)]; exact h1.2.2.1, ruR_fr h1.2.2.2 (e1 175 (by omega)) (by rw [e1 169 (by omega)])⟩, ?_, ?_, ?_, ?_, ?_⟩
  · unfold TxR; rw [e1 169 (by omega), e1 173 (by omega)]; exact h2
  · unfold RwR; rw [e1 169 (by omega), (hf 170 (by omega)).2]; exact h3
  · unfold PsR; rw [e1 169 (by omega), e1 185 (by omega)]; exact h4
  · unfold KpR; rw [e1 169 (by omega), e1 202 (by omega), e1 203 (by omega), e1 204 (by omega)]; exact h5
  · unfold HR; rw [e1 169 (by omega), e1 198 (by omega), e1 199 (by omega)]; exact h6
def rowS (S : SP) (l : Option (List Int64)) : SP := match l with
  | none => S
  | some l => (S.1, S.2.1, l, S.2.2.2)
theorem kc_cfr {M M' : Mem} (h : KC M M') : CFr M M' := fun a ha => ⟨h.1 a (by unfold SC; omega) (by omega), h.2.1 a (by omega)⟩
theorem kr_rfr {M M' : Mem} (h : KR M M') : RFr M M' := ⟨fun a ha => ⟨h.1 a (by omega) (by unfold SR; omega), h.2.2.1 a (by omega)⟩, h.2.2.2⟩
theorem crel_q {S : SP} {M M' : Mem} {l : Option (List Int64)} (h : CRel S M) (hk : KC M M') (hr : CRow l M M') : CRel (rowS S l) M' := by
  obtain ⟨h1, h2, h3, h4, h5, h6, h7, h8⟩ := h
  have e1 : ∀ a, ¬ SC a → a ≠ 4 → M'.1 a = M.1 a := hk.1
  have e3 := hk.2.2
  have hR := h1.2.2.2.2
  have hrv : ∀ r n v, (6 ≤ r ∧ r + 4 ≤ 10) ∨ (26 ≤ r ∧ r + 4 ≤ 107) ∨ 154 ≤ r → RvC r n v M → RvC r n v M' := fun r n v hr h => rivC_fr h (fun a a1 a2 => e1 a (by unfold SC; omega) (by omega))
  have hrow : RwC (rowS S l).2.2.1 M' := by
    cases l with
    | none =>
      show RwC S.2.2.1 M'
      unfold RwC
      rw [hr.1, hr.2]
      exact h4
    | some l => exact hr
  have goal : CR S.1.1 S.1.2.1 S.1.2.2 (M'.2.2 1 17) M' ∧ M'.2.2 1 18 = 296 - M'.2.2 1 17 ∧ TxC S.2.1.1 S.2.1.2 M' ∧ RwC (rowS S l).2.2.1 M' ∧ PsC S.1.1 S.2.2.2.1.1 S.2.2.2.1.2 M' ∧ KpC S.1.1 S.2.2.2.2.1.1 S.2.2.2.2.1.2 M' ∧ HC S.2.2.2.2.2.1 S.2.2.2.2.2.2.1 S.2.2.2.2.2.2.2 M' ∧ LawP M' := by
    rw [e3]
    refine ⟨⟨h1.1, hrv 6 _ _ (by omega) h1.2.1, ruC_fr h1.2.2.1 (e1 _ (by unfold SC; omega) (by omega)) (e1 _ (by unfold SC; omega) (by omega)), by rw [e3], hR⟩, h2, ?_, hrow, ?_, ?_, ?_, ?_⟩
    · unfold TxC; rw [e1 2 (by unfold SC; omega) (by omega), e1 3 (by unfold SC; omega) (by omega)]; exact h3
    · unfold PsC; rw [e1 26 (by unfold SC; omega) (by omega), e3]
      refine ⟨h5.1, h5.2.1, h5.2.2.1, h5.2.2.2.1, fun j hj => ?_⟩
      obtain ⟨c, hc, ec⟩ := h5.2.2.1 j (by have := h5.1; omega)
      exact hrv _ _ _ (by omega) (h5.2.2.2.2 j hj)
    · unfold KpC; rw [e1 104 (by unfold SC; omega) (by omega), e3]
      exact fun i hi => ⟨(h6 i hi).1, fun hk => hrv _ _ _ (by omega) ((h6 i hi).2 hk)⟩
    · unfold HC; rw [e1 105 (by unfold SC; omega) (by omega), e1 106 (by unfold SC; omega) (by omega), e1 107 (by unfold SC; omega) (by omega)]; exact h7
    · unfold LawP; rw [e1 115 (by unfold SC; omega) (by omega), e1 137 (by unfold SC; omega) (by omega)]; exact h8
  cases l <;> exact goal
theorem rrel_q {S : SP} {M M' : Mem} {l : Option (List Int64)} (h : RRel S M) (hk : KR M M') (hr : RRow l M M') : RRel (rowS S l) M' := by
  obtain ⟨h1, h2, h3, h4, h5, h6⟩ := h
  have e1 : ∀ a, a ≠ 169 → ¬ SR a → M'.1 a = M.1 a := hk.1
  have e2 : ∀ i, ¬ SS i → M'.1 169 i = M.1 169 i := hk.2.1
  have hrow : RwR (rowS S l).2.2.1 M' := by
    cases l with
    | none =>
      show RwR S.2.2.1 M'
      unfold RwR
      rw [hr.1, hr.2]
      exact h3
    | some l => exact hr
  have goal : RR S.1.1 S.1.2.1 S.1.2.2 M' ∧ TxR S.2.1.1 S.2.1.2 M' ∧ RwR (rowS S l).2.2.1 M' ∧ PsR S.1.1 S.2.2.2.1.1 S.2.2.2.1.2 M' ∧ KpR S.1.1 S.2.2.2.2.1.1 S.2.2.2.2.1.2 M' ∧ HR S.2.2.2.2.2.1 S.2.2.2.2.2.2.1 S.2.2.2.2.2.2.2 M' := by
    refine ⟨rr_kr h1 hk, ?_, hrow, ?_, ?_, ?_⟩
    · unfold TxR; rw [e2 8 (by unfold SS; omega), e1 173 (by omega) (by unfold SR; omega)]; exact h2
    · unfold PsR; rw [e2 28 (by unfold SS; omega), e1 185 (by omega) (by unfold SR; omega)]; exact h4
    · unfold KpR; rw [e2 4 (by unfold SS; omega), e1 202 (by omega) (by unfold SR; omega), e1 203 (by omega) (by unfold SR; omega), e1 204 (by omega) (by unfold SR; omega)]; exact h5
    · unfold HR; rw [e2 45 (by unfold SS; omega), e1 198 (by omega) (by unfold SR; omega), e1 199 (by omega) (by unfold SR; omega)]; exact h6
  cases l <;> exact goal
/-- the two sides of a call, one behind the other -/
def StI (fC fR : Mem → Option (Int32 × Mem)) (M : Mem) : Prop := Ok (fC M) (fun q1 => Ok (fR q1.2) (fun q2 => q1.1 = q2.1 ∧ Rel q2.2))
theorem st_gen {S S' : SP} {M : Mem} {fC fR : Mem → Option (Int32 × Mem)} {x : Int32} (hS' : spOK S') (hr : RRel S M) (qc : Ok (fC M) (fun q => q.1 = x ∧ CRel S' q.2 ∧ CFr M q.2)) (qr : ∀ M1, RRel S M1 → Ok (fR M1) (fun q => q.1 = x ∧ RRel S' q.2 ∧ RFr M1 q.2)) : StI fC fR M := by
  refine ok_mono qc (fun q1 h1 => ok_mono (qr q1.2 (rrel_fr hr h1.2.2)) (fun q2 h2 => ⟨h1.1.trans h2.1.symm, S', hS', crel_fr h1.2.1 h2.2.2, h2.2.1⟩))
theorem ok_rowS {S : SP} {l : Option (List Int64)} (h : spOK S) (hl : ∀ l', l = some l' → l'.length ≤ 16) : spOK (rowS S l) := by
  cases l with
  | none => exact h
  | some l => exact ⟨h.1, hl l rfl, h.2.2⟩
theorem st_q {S : SP} {M : Mem} {fC fR : Mem → Option (Int32 × Mem)} {x : Int32} {l : Option (List Int64)} (hS : spOK S) (hc : CRel S M) (hr : RRel S M) (hl : ∀ l', l = some l' → l'.length ≤ 16) (qc : Ok (fC M) (QC x l M)) (qr : ∀ M1, RRel S M1 → Ok (fR M1) (QR x l M1)) : StI fC fR M :=
  st_gen (S' := rowS S l) (x := x) (ok_rowS hS hl) hr (ok_mono qc (fun q h => ⟨h.1, crel_q hc h.2.1 h.2.2, kc_cfr h.2.1⟩)) (fun M1 h1 => ok_mono (qr M1 h1) (fun q h => ⟨h.1, rrel_q h1 h.2.1 h.2.2, kr_rfr h.2.1⟩))
theorem st_no {S : SP} {M : Mem} {fC fR : Mem → Option (Int32 × Mem)} {x : Int32} (hS : spOK S) (hc : CRel S M) (hr : RRel S M) (qc : fC M = some (x, M)) (qr : ∀ M1, RRel S M1 → fR M1 = some (x, sI M1 169 0 0)) : StI fC fR M :=
  st_q (l := none) hS hc hr (fun _ h => by cases h) (ok_eq qc (qc_none fr_rfl)) (fun M1 h1 => ok_eq (qr M1 h1) (qr_none (frR_sI (by omega) (by unfold SS1 SS; omega))))
theorem in_no {M : Mem} {x : Int32} {y z : Int64} {lo hi : Int} (hy : y.toInt = lo) (hz : z.toInt = hi) (h : ¬ (lo ≤ x.toInt ∧ x.toInt ≤ hi)) : fX10_in x.toInt64 y z M = some (0, M) := by rw [r_inI hy hz, if_neg h]
theorem range_cases (x : Int32) (lo hi : Nat) (hl : lo < 1000) (hh : hi < 1000) : (∃ d, lo ≤ d ∧ d ≤ hi ∧ x = nI d) ∨ (¬ ((lo : Int) ≤ x.toInt ∧ x.toInt ≤ (hi : Int)) ∧ (x < nI lo ∨ nI hi < x)) := by
  by_cases h : (lo : Int) ≤ x.toInt ∧ x.toInt ≤ (hi : Int)
  · have h0 : ¬ x < 0 := fun q => by
      rw [Int32.lt_iff_toInt_lt] at q
      have : (0 : Int32).toInt = 0 := by decide
      omega
    obtain ⟨j, hj, rfl⟩ := nI_of h0
    rw [nI_toInt hj] at h
    exact Or.inl ⟨j, by omega, by omega, rfl⟩
  · refine Or.inr ⟨h, ?_⟩
    by_cases h1 : (lo : Int) ≤ x.toInt
    · right
      rw [Int32.lt_iff_toInt_lt, nI_toInt (by omega)]
      omega
    · left
      rw [Int32.lt_iff_toInt_lt, nI_toInt (by omega)]
      omega
theorem gt_nle {a b : Int32} (h : a < b) : (b ≤ a) = False := by
  refine eq_false (fun q => ?_)
  rw [Int32.lt_iff_toInt_lt] at h
  rw [Int32.le_iff_toInt_le] at q
  omega
theorem gt_nlt {a b : Int32} (h : a < b) : (b < a) = False := by
  refine eq_false (fun q => ?_)
  rw [Int32.lt_iff_toInt_lt] at h q
  omega
