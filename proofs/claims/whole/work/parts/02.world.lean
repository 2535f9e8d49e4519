/-! the memory: ints, longs, references by cell and slot; the world: the cells 1 .. N from B + 1 on hold it -/
abbrev Mem : Type := (Nat → Nat → Int32) × (Nat → Nat → Int64) × (Nat → Nat → Nat)
def up2 {α : Type} (f : Nat → Nat → α) (a i : Nat) (v : α) : Nat → Nat → α := fun a' => if a' = a then (fun i' => if i' = i then v else f a i') else f a'
def sI (M : Mem) (a i : Nat) (v : Int32) : Mem := (up2 M.1 a i v, M.2)
def sJ (M : Mem) (a i : Nat) (v : Int64) : Mem := (M.1, up2 M.2.1 a i v, M.2.2)
def sR (M : Mem) (a i : Nat) (v : Nat) : Mem := (M.1, M.2.1, up2 M.2.2 a i v)
def lt {α β : Type} (v : α) (f : α → β) : β := f v
def ix (i : Int32) : Nat := i.toNatClampNeg
def inb (i : Int32) (n : Nat) : Bool := decide (0 ≤ i.toInt ∧ i.toInt < n)
def ln (a : Nat) : Nat := (sh a).2
theorem lt_elim {α β : Type} {v : α} {f : α → β} {r : β} (h : lt v f = r) : ∃ x, x = v ∧ f x = r := ⟨v, rfl, h⟩
theorem inb_vp {i : Int32} {n : Nat} (h : inb i n = true) : vp_in i n := vp_in_iff.mpr (of_decide_eq_true h)
theorem up2_row {α : Type} {f : Nat → Nat → α} {a i b : Nat} {v : α} (h : b ≠ a) : up2 f a i v b = f b := by
  unfold up2; rw [if_neg h]
theorem up2_at {α : Type} {f : Nat → Nat → α} {a i : Nat} {v : α} : up2 f a i v a i = v := by simp [up2]
theorem up2_ne {α : Type} {f : Nat → Nat → α} {a i b j : Nat} {v : α} (h : ¬ (b = a ∧ j = i)) : up2 f a i v b j = f b j := by
  unfold up2
  by_cases e : b = a
  · subst e
    have : j ≠ i := fun q => h ⟨rfl, q⟩
    simp [this]
  · simp [e]
abbrev GG : Type := va_G × (Nat → ClassId) × (Nat → Nat)
abbrev tysG (G : GG) : List (ClassId × FieldType) := [(G.2.1 0, .int), (G.2.1 1, .boolean), (G.2.1 2, .long), (G.2.1 3, .object "BumpsRiver$River"), (G.2.1 4, .array .int)]
def rv (B n : Nat) : Option Nat := if n = 0 then none else some (B + n)
theorem rv_pos {B n : Nat} (h : n ≠ 0) : rv B n = some (B + n) := by unfold rv; rw [if_neg h]
def oF (B : Nat) (M : Mem) (a : Nat) : Nat → List Nat → List Value
  | _, [] => []
  | k, t :: ts => (if t = 0 then Value.int (M.1 a k) else va_rf (rv B (M.2.2 a k))) :: oF B M a (k + 1) ts
theorem oF_get {B : Nat} {M : Mem} {a : Nat} : ∀ (fk : List Nat) (k0 k : Nat), (oF B M a k0 fk)[k]? = (fk[k]?).map (fun t => if t = 0 then Value.int (M.1 a (k0 + k)) else va_rf (rv B (M.2.2 a (k0 + k))))
  | [], k0, k => by simp [oF]
  | t :: ts, k0, 0 => by simp [oF]
  | t :: ts, k0, k + 1 => by
    simp only [oF, List.getElem?_cons_succ]
    rw [oF_get ts (k0 + 1) k]
    rw [show k0 + 1 + k = k0 + (k + 1) by omega]
theorem oF_len {B : Nat} {M : Mem} {a : Nat} : ∀ (fk : List Nat) (k0 : Nat), (oF B M a k0 fk).length = fk.length
  | [], _ => rfl
  | t :: ts, k0 => by simp [oF, oF_len ts (k0 + 1)]
theorem oF_congr {B : Nat} {M M' : Mem} {a : Nat} (fk : List Nat) (k0 : Nat) (h1 : ∀ j, M'.1 a j = M.1 a j) (h2 : ∀ j, M'.2.2 a j = M.2.2 a j) : oF B M' a k0 fk = oF B M a k0 fk := by
  apply List.ext_getElem?
  intro k
  rw [oF_get, oF_get, h1, h2]
theorem oF_setI {B : Nat} {M : Mem} {a k : Nat} {v : Int32} (fk : List Nat) (h : fk[k]? = some 0) : (oF B M a 0 fk).set k (.int v) = oF B (sI M a k v) a 0 fk := by
  have hl : k < (oF B M a 0 fk).length := by rw [oF_len]; exact (List.getElem?_eq_some_iff.mp h).1
  apply List.ext_getElem?
  intro j
  by_cases e : k = j
  · subst e
    rw [List.getElem?_set_self hl, oF_get, h]
    simp [sI, up2]
  · rw [List.getElem?_set_ne e, oF_get, oF_get]
    have e2 : ¬ j = k := fun q => e q.symm
    simp [sI, up2, e2]
theorem oF_setR {B : Nat} {M : Mem} {a k n : Nat} (fk : List Nat) (h : fk[k]? = some 1) (hn : n ≠ 0) : (oF B M a 0 fk).set k (.ref (B + n)) = oF B (sR M a k n) a 0 fk := by
  have hl : k < (oF B M a 0 fk).length := by rw [oF_len]; exact (List.getElem?_eq_some_iff.mp h).1
  apply List.ext_getElem?
  intro j
  by_cases e : k = j
  · subst e
    rw [List.getElem?_set_self hl, oF_get, h]
    simp [sR, up2, rv_pos hn, va_rf]
  · rw [List.getElem?_set_ne e, oF_get, oF_get]
    have e2 : ¬ j = k := fun q => e q.symm
    simp [sR, up2, e2]
def ce (G : GG) (B : Nat) (M : Mem) (a : Nat) : va_E :=
  if (sh a).1 = 0 then .inl (G.2.1 0, (sh a).2, .inl (M.1 a))
  else if (sh a).1 = 1 then .inl (G.2.1 1, (sh a).2, .inl (M.1 a))
  else if (sh a).1 = 2 then .inl (G.2.1 2, (sh a).2, .inr (.inl (M.2.1 a)))
  else if (sh a).1 = 3 then .inl (G.2.1 3, (sh a).2, .inr (.inr (.inr (.inr fun i => rv B (M.2.2 a i)))))
  else if (sh a).1 = 4 then .inl (G.2.1 4, (sh a).2, .inr (.inr (.inr (.inr fun i => rv B (M.2.2 a i)))))
  else .inr ((sh a).1 - 10, oF B M a 0 (fks ((sh a).1 - 10)))
theorem ce_0 {G : GG} {B : Nat} {M : Mem} {a : Nat} (h : (sh a).1 = 0) : ce G B M a = .inl (G.2.1 0, ln a, .inl (M.1 a)) := by simp [ce, h, ln]
theorem ce_1 {G : GG} {B : Nat} {M : Mem} {a : Nat} (h : (sh a).1 = 1) : ce G B M a = .inl (G.2.1 1, ln a, .inl (M.1 a)) := by simp [ce, h, ln]
theorem ce_2 {G : GG} {B : Nat} {M : Mem} {a : Nat} (h : (sh a).1 = 2) : ce G B M a = .inl (G.2.1 2, ln a, .inr (.inl (M.2.1 a))) := by simp [ce, h, ln]
theorem ce_3 {G : GG} {B : Nat} {M : Mem} {a : Nat} (h : (sh a).1 = 3) : ce G B M a = .inl (G.2.1 3, ln a, .inr (.inr (.inr (.inr fun i => rv B (M.2.2 a i))))) := by simp [ce, h, ln]
theorem ce_4 {G : GG} {B : Nat} {M : Mem} {a : Nat} (h : (sh a).1 = 4) : ce G B M a = .inl (G.2.1 4, ln a, .inr (.inr (.inr (.inr fun i => rv B (M.2.2 a i))))) := by simp [ce, h, ln]
theorem ce_o {G : GG} {B : Nat} {M : Mem} {a ci : Nat} (h : (sh a).1 = ci + 10) : ce G B M a = .inr (ci, oF B M a 0 (fks ci)) := by
  unfold ce
  rw [h, if_neg (by omega), if_neg (by omega), if_neg (by omega), if_neg (by omega), if_neg (by omega)]
  rw [Nat.add_sub_cancel]
theorem ce_congr {G : GG} {B : Nat} {M M' : Mem} {a : Nat} (h1 : M'.1 a = M.1 a) (h2 : M'.2.1 a = M.2.1 a) (h3 : M'.2.2 a = M.2.2 a) : ce G B M' a = ce G B M a := by
  unfold ce
  rw [h1, h2, h3, oF_congr (M := M) (M' := M') _ _ (fun j => by rw [h1]) (fun j => by rw [h3])]
theorem ce_sI {G : GG} {B : Nat} {M : Mem} {a i j : Nat} {v : Int32} (h : j ≠ a) : ce G B (sI M a i v) j = ce G B M j := ce_congr (up2_row h) rfl rfl
theorem ce_sJ {G : GG} {B : Nat} {M : Mem} {a i j : Nat} {v : Int64} (h : j ≠ a) : ce G B (sJ M a i v) j = ce G B M j := ce_congr rfl (up2_row h) rfl
theorem ce_sR {G : GG} {B : Nat} {M : Mem} {a i j : Nat} {v : Nat} (h : j ≠ a) : ce G B (sR M a i v) j = ce G B M j := ce_congr rfl rfl (up2_row h)
def wl (G : GG) (B N : Nat) (M : Mem) : va_W := (List.range N).map fun j => (B + (j + 1), ce G B M (j + 1))
theorem wl_at {G : GG} {B N : Nat} {M : Mem} (i : Nat) : (wl G B N M)[i]? = if i < N then some (B + (i + 1), ce G B M (i + 1)) else none := by
  unfold wl
  rw [List.getElem?_map]
  by_cases h : i < N
  · simp [h]
  · simp [h]
theorem wl_get {G : GG} {B N : Nat} {M : Mem} {a : Nat} (h0 : a ≠ 0) (hN : a ≤ N) : (wl G B N M)[a - 1]? = some (B + a, ce G B M a) := by
  rw [wl_at, if_pos (by omega), show a - 1 + 1 = a by omega]
theorem wl_len {G : GG} {B N : Nat} {M : Mem} : (wl G B N M).length = N := by simp [wl]
theorem wl_set {G : GG} {B N : Nat} {M M' : Mem} {a : Nat} {e : va_E} (h0 : a ≠ 0) (hN : a ≤ N) (h : ∀ j, j ≠ a → ce G B M' j = ce G B M j) (he : e = ce G B M' a) : (wl G B N M).set (a - 1) (B + a, e) = wl G B N M' := by
  apply List.ext_getElem?
  intro i
  by_cases hi : a - 1 = i
  · subst hi
    rw [List.getElem?_set_self (by rw [wl_len]; omega), wl_get h0 hN, he]
  · rw [List.getElem?_set_ne hi, wl_at, wl_at]
    by_cases hl : i < N
    · rw [if_pos hl, if_pos hl, h (i + 1) (by omega)]
    · rw [if_neg hl, if_neg hl]
theorem wl_D {G : GG} {B N : Nat} {M : Mem} : va_D (fun q : Nat => B < q) (wl G B N M) := by
  refine ⟨fun i j x y hi hj hxy => ?_, fun k q hk => ?_⟩
  · rw [wl_at] at hi hj
    by_cases h1 : i < N
    · by_cases h2 : j < N
      · rw [if_pos h1] at hi
        rw [if_pos h2] at hj
        cases hi
        cases hj
        have : B + (i + 1) = B + (j + 1) := hxy
        omega
      · rw [if_neg h2] at hj; cases hj
    · rw [if_neg h1] at hi; cases hi
  · rw [wl_at] at hk
    by_cases h1 : k < N
    · rw [if_pos h1] at hk
      cases hk
      show B < B + (k + 1)
      omega
    · rw [if_neg h1] at hk; cases hk
/-- the table's good words -/
def gtbl : List Cond := lw_tbl.filter goodWord
theorem mem_g {w : Cond} (i : Nat) (h : lw_tbl[i]? = some w) (hg : goodWord w = true) : w ∈ gtbl := List.mem_filter.mpr ⟨List.mem_of_getElem? h, hg⟩
theorem mem_t1 {w : Cond} (i : Nat) (h : (tables_1_1[i]? = some w ∧ goodWord w = true)) : w ∈ gtbl := List.mem_filter.mpr ⟨List.mem_append_right _ ((fun (h : w ∈ tables_1_1) => (show w ∈ tables_1_1 ++ (tables_1_2 ++ (tables_1_3 ++ (tables_1_4 ++ (tables_1_5 ++ (tables_1_6 ++ (tables_1_7 ++ tables_1_8)))))) from List.mem_append_left _ h)) (List.mem_of_getElem? h.1)), h.2⟩
theorem mem_t2 {w : Cond} (i : Nat) (h : (tables_1_2[i]? = some w ∧ goodWord w = true)) : w ∈ gtbl := List.mem_filter.mpr ⟨List.mem_append_right _ ((fun (h : w ∈ tables_1_2) => (show w ∈ tables_1_1 ++ (tables_1_2 ++ (tables_1_3 ++ (tables_1_4 ++ (tables_1_5 ++ (tables_1_6 ++ (tables_1_7 ++ tables_1_8)))))) from List.mem_append_right _ (List.mem_append_left _ h))) (List.mem_of_getElem? h.1)), h.2⟩
theorem mem_t3 {w : Cond} (i : Nat) (h : (tables_1_3[i]? = some w ∧ goodWord w = true)) : w ∈ gtbl := List.mem_filter.mpr ⟨List.mem_append_right _ ((fun (h : w ∈ tables_1_3) => (show w ∈ tables_1_1 ++ (tables_1_2 ++ (tables_1_3 ++ (tables_1_4 ++ (tables_1_5 ++ (tables_1_6 ++ (tables_1_7 ++ tables_1_8)))))) from List.mem_append_right _ (List.mem_append_right _ (List.mem_append_left _ h)))) (List.mem_of_getElem? h.1)), h.2⟩
theorem mem_t4 {w : Cond} (i : Nat) (h : (tables_1_4[i]? = some w ∧ goodWord w = true)) : w ∈ gtbl := List.mem_filter.mpr ⟨List.mem_append_right _ ((fun (h : w ∈ tables_1_4) => (show w ∈ tables_1_1 ++ (tables_1_2 ++ (tables_1_3 ++ (tables_1_4 ++ (tables_1_5 ++ (tables_1_6 ++ (tables_1_7 ++ tables_1_8)))))) from List.mem_append_right _ (List.mem_append_right _ (List.mem_append_right _ (List.mem_append_left _ h))))) (List.mem_of_getElem? h.1)), h.2⟩
theorem mem_t5 {w : Cond} (i : Nat) (h : (tables_1_5[i]? = some w ∧ goodWord w = true)) : w ∈ gtbl := List.mem_filter.mpr ⟨List.mem_append_right _ ((fun (h : w ∈ tables_1_5) => (show w ∈ tables_1_1 ++ (tables_1_2 ++ (tables_1_3 ++ (tables_1_4 ++ (tables_1_5 ++ (tables_1_6 ++ (tables_1_7 ++ tables_1_8)))))) from List.mem_append_right _ (List.mem_append_right _ (List.mem_append_right _ (List.mem_append_right _ (List.mem_append_left _ h)))))) (List.mem_of_getElem? h.1)), h.2⟩
theorem mem_t6 {w : Cond} (i : Nat) (h : (tables_1_6[i]? = some w ∧ goodWord w = true)) : w ∈ gtbl := List.mem_filter.mpr ⟨List.mem_append_right _ ((fun (h : w ∈ tables_1_6) => (show w ∈ tables_1_1 ++ (tables_1_2 ++ (tables_1_3 ++ (tables_1_4 ++ (tables_1_5 ++ (tables_1_6 ++ (tables_1_7 ++ tables_1_8)))))) from List.mem_append_right _ (List.mem_append_right _ (List.mem_append_right _ (List.mem_append_right _ (List.mem_append_right _ (List.mem_append_left _ h))))))) (List.mem_of_getElem? h.1)), h.2⟩
theorem mem_t7 {w : Cond} (i : Nat) (h : (tables_1_7[i]? = some w ∧ goodWord w = true)) : w ∈ gtbl := List.mem_filter.mpr ⟨List.mem_append_right _ ((fun (h : w ∈ tables_1_7) => (show w ∈ tables_1_1 ++ (tables_1_2 ++ (tables_1_3 ++ (tables_1_4 ++ (tables_1_5 ++ (tables_1_6 ++ (tables_1_7 ++ tables_1_8)))))) from List.mem_append_right _ (List.mem_append_right _ (List.mem_append_right _ (List.mem_append_right _ (List.mem_append_right _ (List.mem_append_right _ (List.mem_append_left _ h)))))))) (List.mem_of_getElem? h.1)), h.2⟩
theorem mem_t8 {w : Cond} (i : Nat) (h : (tables_1_8[i]? = some w ∧ goodWord w = true)) : w ∈ gtbl := List.mem_filter.mpr ⟨List.mem_append_right _ ((fun (h : w ∈ tables_1_8) => (show w ∈ tables_1_1 ++ (tables_1_2 ++ (tables_1_3 ++ (tables_1_4 ++ (tables_1_5 ++ (tables_1_6 ++ (tables_1_7 ++ tables_1_8)))))) from List.mem_append_right _ (List.mem_append_right _ (List.mem_append_right _ (List.mem_append_right _ (List.mem_append_right _ (List.mem_append_right _ (List.mem_append_right _ (h))))))))) (List.mem_of_getElem? h.1)), h.2⟩
abbrev wsG (y : MethodName) (bytes : ByteArray) (maxL : Nat) (ret : Option FieldType) : List Cond := Cond.code y bytes maxL ret :: gtbl
theorem wsG_ok {y : MethodName} {bytes : ByteArray} {maxL : Nat} {ret : Option FieldType} {a : Array Value} {s : State} (h : ∀ w ∈ wsG y bytes maxL ret, w.before a s = true) : ∀ w ∈ gtbl, w.before a s = true := fun w hw => h w (List.mem_cons_of_mem _ hw)
theorem good_g {w : Cond} (h : w ∈ gtbl) : goodWord w = true := (List.mem_filter.mp h).2
theorem goodIn_g {y : MethodName} {bytes : ByteArray} {maxL : Nat} {ret : Option FieldType} (h : Cond.code y bytes maxL ret ∈ gtbl) : GoodIn gtbl (wsG y bytes maxL ret) := fun w hw => by
  rcases List.mem_cons.mp hw with e | e
  · subst e
    exact ⟨h, good_of_word (good_g h)⟩
  · exact ⟨e, good_of_word (good_g e)⟩
/-- a field that the code of a class names: class ci, slot k, kind t (0 int, 1 reference) -/
def FI (own : String) (idx ci k t : Nat) : Prop := ∃ (C : String) (T : u_T) (n : Nat), vwCl[ci]? = some (C, T, n) ∧ k < n ∧ Cond.fieldLink own idx (T k).1 (T k).2.1 (T k).2.2.1 ∈ gtbl ∧ (∀ w ∈ u_ws C T n, w ∈ gtbl) ∧ (fks ci)[k]? = some t
def FP (own : String) (idx ci k t : Nat) (fin : Bool) (ty : FieldType) : Prop := ∃ (C : String) (T : u_T) (n : Nat) (ty0 : Nat → FieldType), vwCl[ci]? = some (C, T, n) ∧ k < n ∧ Cond.fieldLink own idx (T k).1 (T k).2.1 (T k).2.2.1 ∈ gtbl ∧ (∀ w ∈ u_ws C T n, w ∈ gtbl) ∧ (fks ci)[k]? = some t ∧ (∀ k, k < n → parseFieldDescriptor (T k).2.2.1 = some (ty0 k)) ∧ (∀ a, a < n → ∀ b, b < n → a ≠ b → (T a).2.1 ≠ (T b).2.1) ∧ (T k).2.2.2 = fin ∧ ty0 k = ty
def Cx (p : Program) (s : State) (m : MethodId) (args : Array Value) (c : Code) (cc : ByteArray) (nL : Nat) (own : String) (G : GG) : Prop :=
  p.tables.exec = Jvm.exec ∧ c.code = cc ∧ c.maxLocals = nL ∧ s.vm.findClass own = some m.cls ∧ (∀ w ∈ gtbl, w.before args s = true) ∧ va_K G.1 vwCl (tysG G) s
def Fin (R : Nat → Nat → Nat) : Prop := ∀ q ∈ finT, R q.1 q.2.1 = q.2.2
/-! what lies outside: two static arrays, the texts -/
def hLeast (j : Nat) : Int32 := ([1, 0, 0, 0, 0] : List Int32).getD j 0
def hMost (j : Nat) : Int32 := ([9, 9, 5, 1, 1] : List Int32).getD j 0
def strT : List (String × Nat × String) := [("BumpsRiverModel", 215, "pxtigbn"), ("BumpsRiverModel", 224, "<>="), ("BumpsRiverModel", 226, "+-"), ("BumpsRiverModel", 228, "*/"), ("BumpsRiverModel", 344, "nsrpgk"), ("BumpsRiver", 140, "no such boat"), ("BumpsRiver", 167, "no such number of a boat"), ("BumpsRiver", 169, "no such place"), ("BumpsRiver", 411, "no such number of the row")]
def lenS : List Nat := [7, 3, 2, 2, 6, 12, 24, 13, 25]
def bytS : List (List Int32) := [[112, 120, 116, 105, 103, 98, 110], [60, 62, 61], [43, 45], [42, 47], [110, 115, 114, 112, 103, 107], [110, 111, 32, 115, 117, 99, 104, 32, 98, 111, 97, 116], [110, 111, 32, 115, 117, 99, 104, 32, 110, 117, 109, 98, 101, 114, 32, 111, 102, 32, 97, 32, 98, 111, 97, 116], [110, 111, 32, 115, 117, 99, 104, 32, 112, 108, 97, 99, 101], [110, 111, 32, 115, 117, 99, 104, 32, 110, 117, 109, 98, 101, 114, 32, 111, 102, 32, 116, 104, 101, 32, 114, 111, 119]]
/-- words on the exception's class that the tables decide -/
def nsW : List Cond := [.declares (Bundle.initS "java/lang/RuntimeException"), .declares (Bundle.initS "java/lang/Exception"), .declares (Bundle.initS "java/lang/Throwable"), .castable "java/util/NoSuchElementException" "java/util/NoSuchElementException"]
theorem ns_tab : ∀ w ∈ nsW, w.onTables = true ∧ w.faceAtom = true := by decide +kernel
theorem ns_mv {s t : State} (hv : s.vm.Alike t.vm) (h : ∀ w ∈ nsW, w.before #[] s = true) : ∀ w ∈ nsW, w.before #[] t = true := fun w hw => va_tabs (ns_tab w hw).1 (u := s.setVm t.vm) rfl (Cond.faceAtom_setVm hv w (ns_tab w hw).2 (h w hw))
theorem ns_all : ∀ w ∈ nsW, w ∈ lw_tbl := by decide +kernel
def Ex (G : GG) (B : Nat) (U : State) : Prop :=
  (va_Z "BumpsRiver" "HEARD_LEAST" "[I" (.ref (G.2.2 0)) (fun q : Nat => B < q) U U.heap ∧ va_T .int (G.2.2 0) 5 (fun j => .int (hLeast j)) (fun q : Nat => B < q) U U.heap) ∧
  (va_Z "BumpsRiver" "HEARD_MOST" "[I" (.ref (G.2.2 1)) (fun q : Nat => B < q) U U.heap ∧ va_T .int (G.2.2 1) 5 (fun j => .int (hMost j)) (fun q : Nat => B < q) U U.heap) ∧
  va_Z "java/lang/String" "COMPACT_STRINGS" "Z" (.int 1) (fun q : Nat => B < q) U U.heap ∧
  vk_S 9 lenS bytS (fun j => G.2.2 (2 + j)) (fun j => G.2.2 (20 + j)) (fun q : Nat => B < q) U U.heap ∧
  (∀ (j : Nat) (q : String × Nat × String), strT[j]? = some q → vk_R q.1 q.2.1 q.2.2 (G.2.2 (2 + j)) U) ∧
  va_Zq "jdk/internal/util/Preconditions" "SIOOBE_FORMATTER" "Ljava/util/function/BiFunction;" (fun q : Nat => B < q) U U.heap ∧ vx_Zq Bundle.tN "UNASSIGNED_STACK" Bundle.steD (fun q : Nat => B < q) U U.heap ∧ vx_Zq Bundle.tN "SUPPRESSED_SENTINEL" Bundle.listD (fun q : Nat => B < q) U U.heap ∧ ∀ w ∈ nsW, w.before #[] U = true
theorem ex_go {G : GG} {B : Nat} {s t : State} {H : Heap} {locs : List Loc} (h : Ex G B s) (hS : va_S (fun q : Nat => B < q) s.heap H locs) (ht : t.heap = H) (hW : s.WarmedH t.vm) : Ex G B t := by
  obtain ⟨⟨a1, a2⟩, ⟨b1, b2⟩, c1, d1, e1, f1, f2, f3, f4⟩ := h
  have hk : ∀ a : Nat, a < s.heap.size → ¬ B < a → t.heap[a]? = s.heap[a]? := fun a h1 h2 => by rw [ht]; exact hS.2.1 a h1 h2
  exact ⟨⟨(a1.kept hk).moved hW.alike, (a2.kept hk).moved hW.alike⟩, ⟨(b1.kept hk).moved hW.alike, (b2.kept hk).moved hW.alike⟩, (c1.kept hk).moved hW.alike, (d1.kept hk).moved hW.alike, fun j q hq => vk_R.warm hW (e1 j q hq), (f1.kept hk).moved hW.alike, vx_Zq.moved hW.alike (f2.kept hk), vx_Zq.moved hW.alike (f3.kept hk), ns_mv hW.alike f4⟩
theorem ex_call {G : GG} {B : Nat} {U : State} (g : JFrame) (mk : MethodId) (a : Array Value) (h : Ex G B U) : Ex G B (U.calling g mk a) := by
  obtain ⟨⟨a1, a2⟩, ⟨b1, b2⟩, c1, d1, e1, f1, f2, f3, f4⟩ := h
  have hv : U.vm.Alike (U.calling g mk a).vm := Vm.Alike.refl U.vm
  exact ⟨⟨a1.moved hv, a2.moved hv⟩, ⟨b1.moved hv, b2.moved hv⟩, c1.moved hv, d1.moved hv, fun j q hq => vk_R.same (U := U.calling g mk a) rfl (e1 j q hq), f1.moved hv, vx_Zq.moved hv f2, vx_Zq.moved hv f3, ns_mv hv f4⟩
/-- the world at a point of a method that began with s -/
def Wo (Φ : (Nat → Nat → Nat) → Prop) (G : GG) (B N : Nat) (s : State) (M : Mem) (H : Heap) (locs : List Loc) : Prop := va_P G.1 vwCl (wl G B N M) H ∧ va_S (fun q : Nat => B < q) s.heap H locs ∧ B < s.heap.size ∧ Φ M.2.2 ∧ Ex G B s
section Rows
variable {p : Program} {l : Launch} {e : Env} {R : Room} {s : State} {m : MethodId} {args : Array Value} {below : List Frame} {meth : Method} {c : Code} {H : Heap} {locs : List Loc} {cells slots : Nat} {Q : State → Prop} {cc : ByteArray} {pc nL : Nat} {ls : Array Slot} {rest : List Value} {own : String} {Φ : (Nat → Nat → Nat) → Prop} {G : GG} {B N : Nat} {M : Mem} {a ci k idx : Nat}
theorem r_getI (cx : Cx p s m args c cc nL own G) (wo : Wo Φ G B N s M H locs) (h0 : a ≠ 0) (hN : a ≤ N) (hs : (sh a).1 = ci + 10) (fi : FI own idx ci k 0) (hdg : decode cc pc = .ok (.getfield idx, 3))
    (kk : W p l e R s m args below meth c H locs cells slots Q (F0 m (pc + 3) ls (.int (M.1 a k) :: rest))) : W p l e R s m args below meth c H locs cells slots Q (F0 m pc ls (.ref (B + a) :: rest)) := by
  obtain ⟨hx, hb, hml, hown, hts, hK⟩ := cx
  obtain ⟨C, T, n, h1, h2, h3, h4, h5⟩ := fi
  refine va_get hx hb hts h4 hown hK wo.1 (a - 1) (by rw [wl_get h0 hN, ce_o hs]) h1 k h2 (hts _ h3) (fun _ h => h) (v := .int (M.1 a k)) ?_ hdg kk
  rw [oF_get, h5]
  simp
theorem r_getR (cx : Cx p s m args c cc nL own G) (wo : Wo Φ G B N s M H locs) (h0 : a ≠ 0) (hN : a ≤ N) (hs : (sh a).1 = ci + 10) (fi : FI own idx ci k 1) {v : Nat} (hv : M.2.2 a k = v) (hv0 : v ≠ 0) (hdg : decode cc pc = .ok (.getfield idx, 3))
    (kk : W p l e R s m args below meth c H locs cells slots Q (F0 m (pc + 3) ls (.ref (B + v) :: rest))) : W p l e R s m args below meth c H locs cells slots Q (F0 m pc ls (.ref (B + a) :: rest)) := by
  obtain ⟨hx, hb, hml, hown, hts, hK⟩ := cx
  obtain ⟨C, T, n, h1, h2, h3, h4, h5⟩ := fi
  refine va_get hx hb hts h4 hown hK wo.1 (a - 1) (by rw [wl_get h0 hN, ce_o hs]) h1 k h2 (hts _ h3) (fun _ h => h) (v := .ref (B + v)) ?_ hdg kk
  rw [oF_get, h5]
  simp [hv, rv_pos hv0, va_rf]
theorem r_putI (cx : Cx p s m args c cc nL own G) (wo : Wo Φ G B N s M H locs) (h0 : a ≠ 0) (hN : a ≤ N) (hs : (sh a).1 = ci + 10) (fp : FP own idx ci k 0 false .int) {x : Int32} (hdg : decode cc pc = .ok (.putfield idx, 3))
    (kk : ∀ (H1 : Heap) (locs1 : List Loc), Wo Φ G B N s (sI M a k x) H1 locs1 → W p l e R s m args below meth c H1 locs1 cells slots Q (F0 m (pc + 3) ls rest)) : W p l e R s m args below meth c H locs cells slots Q (F0 m pc ls (.int x :: .ref (B + a) :: rest)) := by
  obtain ⟨hx, hb, hml, hown, hts, hK⟩ := cx
  obtain ⟨C, T, n, ty0, h1, h2, h3, h4, h5, h6, h7, h8, h9⟩ := fp
  have hk : k < (fks ci).length := (List.getElem?_eq_some_iff.mp h5).1
  refine va_put hx hb hts h4 ty0 h6 h7 hown hK wo.1 wl_D wo.2.1 (a - 1) (by rw [wl_get h0 hN, ce_o hs]) h1 k h2 (hts _ h3) (fun _ h => h) h8 (ty := .int) (by rw [h6 k h2, h9]) rfl rfl (by rw [oF_len]; exact hk) hdg (fun H1 locs1 p1 _ s1 => kk H1 locs1 ⟨?_, s1, wo.2.2⟩)
  rwa [wl_set h0 hN (M' := sI M a k x) (fun j h => ce_sI h) (by rw [ce_o hs, oF_setI _ h5])] at p1
theorem r_putZ (cx : Cx p s m args c cc nL own G) (wo : Wo Φ G B N s M H locs) (h0 : a ≠ 0) (hN : a ≤ N) (hs : (sh a).1 = ci + 10) (fp : FP own idx ci k 0 false .boolean) {x : Int32} (hbx : x = 0 ∨ x = 1) (hdg : decode cc pc = .ok (.putfield idx, 3))
    (kk : ∀ (H1 : Heap) (locs1 : List Loc), Wo Φ G B N s (sI M a k x) H1 locs1 → W p l e R s m args below meth c H1 locs1 cells slots Q (F0 m (pc + 3) ls rest)) : W p l e R s m args below meth c H locs cells slots Q (F0 m pc ls (.int x :: .ref (B + a) :: rest)) := by
  obtain ⟨hx, hb, hml, hown, hts, hK⟩ := cx
  obtain ⟨C, T, n, ty0, h1, h2, h3, h4, h5, h6, h7, h8, h9⟩ := fp
  have hk : k < (fks ci).length := (List.getElem?_eq_some_iff.mp h5).1
  refine va_put hx hb hts h4 ty0 h6 h7 hown hK wo.1 wl_D wo.2.1 (a - 1) (by rw [wl_get h0 hN, ce_o hs]) h1 k h2 (hts _ h3) (fun _ h => h) h8 (ty := .boolean) (by rw [h6 k h2, h9]) (by rcases hbx with rfl | rfl <;> rfl) (by rcases hbx with rfl | rfl <;> rfl) (by rw [oF_len]; exact hk) hdg (fun H1 locs1 p1 _ s1 => kk H1 locs1 ⟨?_, s1, wo.2.2⟩)
  rwa [wl_set h0 hN (M' := sI M a k x) (fun j h => ce_sI h) (by rw [ce_o hs, oF_setI _ h5])] at p1
theorem r_putR (cx : Cx p s m args c cc nL own G) (wo : Wo Φ G B N s M H locs) (h0 : a ≠ 0) (hN : a ≤ N) (hs : (sh a).1 = ci + 10) {ty : FieldType} (fp : FP own idx ci k 1 false ty) {v : Nat} (hv0 : v ≠ 0) (hn : ∀ q : Nat, narrow ty (.ref q) = .ref q) (hf : ∀ q : Nat, fits ty (.ref q) = true) (hΦ : Φ (up2 M.2.2 a k v)) (hdg : decode cc pc = .ok (.putfield idx, 3))
    (kk : ∀ (H1 : Heap) (locs1 : List Loc), Wo Φ G B N s (sR M a k v) H1 locs1 → W p l e R s m args below meth c H1 locs1 cells slots Q (F0 m (pc + 3) ls rest)) : W p l e R s m args below meth c H locs cells slots Q (F0 m pc ls (.ref (B + v) :: .ref (B + a) :: rest)) := by
  obtain ⟨hx, hb, hml, hown, hts, hK⟩ := cx
  obtain ⟨C, T, n, ty0, h1, h2, h3, h4, h5, h6, h7, h8, h9⟩ := fp
  have hk : k < (fks ci).length := (List.getElem?_eq_some_iff.mp h5).1
  refine va_put hx hb hts h4 ty0 h6 h7 hown hK wo.1 wl_D wo.2.1 (a - 1) (by rw [wl_get h0 hN, ce_o hs]) h1 k h2 (hts _ h3) (fun _ h => h) h8 (ty := ty) (by rw [h6 k h2, h9]) (hn _) (hf _) (by rw [oF_len]; exact hk) hdg (fun H1 locs1 p1 _ s1 => kk H1 locs1 ⟨?_, s1, wo.2.2.1, hΦ, wo.2.2.2.2⟩)
  rwa [wl_set h0 hN (M' := sR M a k v) (fun j h => ce_sR h) (by rw [ce_o hs, oF_setR _ h5 hv0])] at p1
theorem r_iald (cx : Cx p s m args c cc nL own G) (wo : Wo Φ G B N s M H locs) (h0 : a ≠ 0) (hN : a ≤ N) (hs : (sh a).1 = 0) {i : Int32} (hin : inb i (ln a) = true) (hdg : decode cc pc = .ok (.iaload, 1))
    (kk : W p l e R s m args below meth c H locs cells slots Q (F0 m (pc + 1) ls (.int (M.1 a (ix i)) :: rest))) : W p l e R s m args below meth c H locs cells slots Q (F0 m pc ls (.int i :: .ref (B + a) :: rest)) := by
  obtain ⟨hx, hb, hml, hown, hts, hK⟩ := cx
  exact va_iald hx hb hK wo.1 (a - 1) 0 (by rw [wl_get h0 hN, ce_0 hs]) rfl (inb_vp hin) hdg kk
theorem r_zald (cx : Cx p s m args c cc nL own G) (wo : Wo Φ G B N s M H locs) (h0 : a ≠ 0) (hN : a ≤ N) (hs : (sh a).1 = 1) {i : Int32} (hin : inb i (ln a) = true) (hdg : decode cc pc = .ok (.baload, 1))
    (kk : W p l e R s m args below meth c H locs cells slots Q (F0 m (pc + 1) ls (.int (M.1 a (ix i)) :: rest))) : W p l e R s m args below meth c H locs cells slots Q (F0 m pc ls (.int i :: .ref (B + a) :: rest)) := by
  obtain ⟨hx, hb, hml, hown, hts, hK⟩ := cx
  exact va_zald hx hb hK wo.1 (a - 1) 1 (by rw [wl_get h0 hN, ce_1 hs]) rfl (inb_vp hin) hdg kk
theorem r_lald (cx : Cx p s m args c cc nL own G) (wo : Wo Φ G B N s M H locs) (h0 : a ≠ 0) (hN : a ≤ N) (hs : (sh a).1 = 2) {i : Int32} (hin : inb i (ln a) = true) (hdg : decode cc pc = .ok (.laload, 1))
    (kk : W p l e R s m args below meth c H locs cells slots Q (F0 m (pc + 1) ls (.long (M.2.1 a (ix i)) :: rest))) : W p l e R s m args below meth c H locs cells slots Q (F0 m pc ls (.int i :: .ref (B + a) :: rest)) := by
  obtain ⟨hx, hb, hml, hown, hts, hK⟩ := cx
  exact va_lald hx hb hK wo.1 (a - 1) 2 (by rw [wl_get h0 hN, ce_2 hs]) rfl (inb_vp hin) hdg kk
theorem r_aald (cx : Cx p s m args c cc nL own G) (wo : Wo Φ G B N s M H locs) (h0 : a ≠ 0) (hN : a ≤ N) (hs : (sh a).1 = 3) {i : Int32} (hin : inb i (ln a) = true) {v : Nat} (hv : M.2.2 a (ix i) = v) (hv0 : v ≠ 0) (hdg : decode cc pc = .ok (.aaload, 1))
    (kk : W p l e R s m args below meth c H locs cells slots Q (F0 m (pc + 1) ls (.ref (B + v) :: rest))) : W p l e R s m args below meth c H locs cells slots Q (F0 m pc ls (.int i :: .ref (B + a) :: rest)) := by
  obtain ⟨hx, hb, hml, hown, hts, hK⟩ := cx
  refine va_aldq hx hb hK wo.1 (a - 1) 3 (by rw [wl_get h0 hN, ce_3 hs]) rfl (inb_vp hin) hdg ?_
  show W p l e R s m args below meth c H locs cells slots Q (F0 m (pc + 1) ls (va_rf (rv B (M.2.2 a (ix i))) :: rest))
  rw [hv, rv_pos hv0]
  exact kk
theorem r_alen (cx : Cx p s m args c cc nL own G) (wo : Wo Φ G B N s M H locs) (h0 : a ≠ 0) (hN : a ≤ N) (hs : (sh a).1 = 0) {v : Int32} (hv : Int32.ofNat (ln a) = v) (hdg : decode cc pc = .ok (.arraylength, 1))
    (kk : W p l e R s m args below meth c H locs cells slots Q (F0 m (pc + 1) ls (.int v :: rest))) : W p l e R s m args below meth c H locs cells slots Q (F0 m pc ls (.ref (B + a) :: rest)) := by
  obtain ⟨hx, hb, hml, hown, hts, hK⟩ := cx
  exact va_alen hx hb hK wo.1 (a - 1) 0 (by rw [wl_get h0 hN, ce_0 hs]) (ty := .int) rfl hv hdg kk
theorem r_iast (cx : Cx p s m args c cc nL own G) (wo : Wo Φ G B N s M H locs) (h0 : a ≠ 0) (hN : a ≤ N) (hs : (sh a).1 = 0) {i x : Int32} (hin : inb i (ln a) = true) (hdg : decode cc pc = .ok (.iastore, 1))
    (kk : ∀ (H1 : Heap) (locs1 : List Loc), Wo Φ G B N s (sI M a (ix i) x) H1 locs1 → W p l e R s m args below meth c H1 locs1 cells slots Q (F0 m (pc + 1) ls rest)) : W p l e R s m args below meth c H locs cells slots Q (F0 m pc ls (.int x :: .int i :: .ref (B + a) :: rest)) := by
  obtain ⟨hx, hb, hml, hown, hts, hK⟩ := cx
  refine va_iast hx hb hK wo.1 wl_D wo.2.1 (a - 1) 0 (by rw [wl_get h0 hN, ce_0 hs]) rfl (inb_vp hin) hdg (fun H1 locs1 p1 _ s1 => kk H1 locs1 ⟨?_, s1, wo.2.2⟩)
  rwa [wl_set h0 hN (M' := sI M a (ix i) x) (fun j h => ce_sI h) (by rw [ce_0 hs]; simp [sI, up2]; rfl)] at p1
theorem r_zast (cx : Cx p s m args c cc nL own G) (wo : Wo Φ G B N s M H locs) (h0 : a ≠ 0) (hN : a ≤ N) (hs : (sh a).1 = 1) {i x : Int32} (hin : inb i (ln a) = true) (hdg : decode cc pc = .ok (.bastore, 1))
    (kk : ∀ (H1 : Heap) (locs1 : List Loc), Wo Φ G B N s (sI M a (ix i) (x &&& 1)) H1 locs1 → W p l e R s m args below meth c H1 locs1 cells slots Q (F0 m (pc + 1) ls rest)) : W p l e R s m args below meth c H locs cells slots Q (F0 m pc ls (.int x :: .int i :: .ref (B + a) :: rest)) := by
  obtain ⟨hx, hb, hml, hown, hts, hK⟩ := cx
  refine va_zast hx hb hK wo.1 wl_D wo.2.1 (a - 1) 1 (by rw [wl_get h0 hN, ce_1 hs]) rfl (inb_vp hin) hdg (fun H1 locs1 p1 _ s1 => kk H1 locs1 ⟨?_, s1, wo.2.2⟩)
  rwa [wl_set h0 hN (M' := sI M a (ix i) (x &&& 1)) (fun j h => ce_sI h) (by rw [ce_1 hs]; simp [sI, up2]; rfl)] at p1
theorem r_last (cx : Cx p s m args c cc nL own G) (wo : Wo Φ G B N s M H locs) (h0 : a ≠ 0) (hN : a ≤ N) (hs : (sh a).1 = 2) {i : Int32} {x : Int64} (hin : inb i (ln a) = true) (hdg : decode cc pc = .ok (.lastore, 1))
    (kk : ∀ (H1 : Heap) (locs1 : List Loc), Wo Φ G B N s (sJ M a (ix i) x) H1 locs1 → W p l e R s m args below meth c H1 locs1 cells slots Q (F0 m (pc + 1) ls rest)) : W p l e R s m args below meth c H locs cells slots Q (F0 m pc ls (.long x :: .int i :: .ref (B + a) :: rest)) := by
  obtain ⟨hx, hb, hml, hown, hts, hK⟩ := cx
  refine va_last hx hb hK wo.1 wl_D wo.2.1 (a - 1) 2 (by rw [wl_get h0 hN, ce_2 hs]) rfl (inb_vp hin) hdg (fun H1 locs1 p1 _ s1 => kk H1 locs1 ⟨?_, s1, wo.2.2⟩)
  rwa [wl_set h0 hN (M' := sJ M a (ix i) x) (fun j h => ce_sJ h) (by rw [ce_2 hs]; simp [sJ, up2]; rfl)] at p1
theorem r_aast (cx : Cx p s m args c cc nL own G) (wo : Wo Φ G B N s M H locs) (h0 : a ≠ 0) (hN : a ≤ N) (hs : (sh a).1 = 3) {i : Int32} {v : Nat} (hin : inb i (ln a) = true) (hv0 : v ≠ 0) (hvN : v ≤ N) (hvs : (sh v).1 = 4 + 10) (hΦ : Φ (up2 M.2.2 a (ix i) v)) (hdg : decode cc pc = .ok (.aastore, 1))
    (kk : ∀ (H1 : Heap) (locs1 : List Loc), Wo Φ G B N s (sR M a (ix i) v) H1 locs1 → W p l e R s m args below meth c H1 locs1 cells slots Q (F0 m (pc + 1) ls rest)) : W p l e R s m args below meth c H locs cells slots Q (F0 m pc ls (.ref (B + v) :: .int i :: .ref (B + a) :: rest)) := by
  obtain ⟨hx, hb, hml, hown, hts, hK⟩ := cx
  refine va_astq hx hb hK wo.1 wl_D wo.2.1 (a - 1) 3 (v - 1) 4 (r := (RX4, TX4, 9)) (by rw [wl_get h0 hN, ce_3 hs]) rfl (by rw [wl_get hv0 hvN, ce_o hvs]) rfl (inb_vp hin) hdg (fun H1 locs1 p1 _ s1 => kk H1 locs1 ⟨?_, s1, wo.2.2.1, hΦ, wo.2.2.2.2⟩)
  rwa [wl_set h0 hN (M' := sR M a (ix i) v) (fun j h => ce_sR h) (by
    rw [ce_3 hs]
    congr 7
    funext j
    by_cases e : j = ix i
    · subst e; simp [va_up, sR, up2, rv_pos hv0, ix]
    · have e2 : ¬ j = i.toNatClampNeg := e
      simp [va_up, sR, up2, e, e2])] at p1
end Rows
