/-! the law: its start -/
theorem niL_8 : NI RL 8 9 19 := ⟨RX9, TX9, tyX9, rfl, by decide +kernel, by decide +kernel, by decide +kernel, uwsX9, tyX9_ok, rfl, by decide +kernel⟩
theorem niL_24 : NI RL 24 10 54 := ⟨RX10, TX10, tyX10, rfl, by decide +kernel, by decide +kernel, by decide +kernel, uwsX10, tyX10_ok, rfl, by decide +kernel⟩
theorem ciL_23 : CI RL 23 yX9_init cX9_init 2 0 := ⟨by decide +kernel, by decide +kernel, rfl, by decide +kernel, by decide +kernel, ⟨by decide +kernel, by decide +kernel, by decide +kernel⟩, by decide⟩
theorem ciL_26 : CI RL 26 yX10_init cX10_init 1 0 := ⟨by decide +kernel, by decide +kernel, rfl, by decide +kernel, by decide +kernel, ⟨by decide +kernel, by decide +kernel, by decide +kernel⟩, by decide⟩
theorem ph_start : Ph Mst.2.2 := by
  refine ⟨?_, ?_, ?_, ?_⟩ <;> decide +kernel
section LawStart
variable {p : Program} {e : Env} {s : State} {m : MethodId} {below : List Frame} {meth : Method} {c : Code} {args : Array Value} {B : Nat}
theorem g_tbl (hts : ∀ w ∈ lw_tbl, w.before args s = true) : ∀ w ∈ gtbl, w.before args s = true := fun w hw => hts w (List.mem_filter.mp hw).1
theorem st_one {C : String} {T : u_T} {n k : Nat} (hg : ∀ w ∈ gtbl, w.before args s = true) (hu : ∀ w ∈ u_ws C T n, w ∈ gtbl) (hi : Cond.instantiable C n ∈ gtbl) (hk : vwCl[k]? = some (C, T, n)) : ∃ (c : ClassId) (iS : Nat → Nat), ∀ q, vwCl[k]? = some q → u_Kn s q.1 q.2.1 q.2.2 c iS := by
  obtain ⟨c, iS, h⟩ := u_known hg hu (hg _ hi)
  refine ⟨c, iS, fun q hq => ?_⟩
  cases Option.some.inj (hk.symm.trans hq)
  exact h
theorem st_classes (hg : ∀ w ∈ gtbl, w.before args s = true) : ∃ (dC : Nat → ClassId) (dI : Nat → Nat → Nat), ∀ (k : Nat) (q : vw_C), vwCl[k]? = some q → u_Kn s q.1 q.2.1 q.2.2 (dC k) (dI k) := by
  have h : ∀ k : Nat, ∃ (c : ClassId) (iS : Nat → Nat), ∀ q, vwCl[k]? = some q → u_Kn s q.1 q.2.1 q.2.2 c iS := by
    intro k
    match k with
    | 0 => exact st_one hg uwsX0 (by decide +kernel) rfl
    | 1 => exact st_one hg uwsX1 (by decide +kernel) rfl
    | 2 => exact st_one hg uwsX2 (by decide +kernel) rfl
    | 3 => exact st_one hg uwsX3 (by decide +kernel) rfl
    | 4 => exact st_one hg uwsX4 (by decide +kernel) rfl
    | 5 => exact st_one hg uwsX5 (by decide +kernel) rfl
    | 6 => exact st_one hg uwsX6 (by decide +kernel) rfl
    | 7 => exact st_one hg uwsX7 (by decide +kernel) rfl
    | 8 => exact st_one hg uwsX8 (by decide +kernel) rfl
    | 9 => exact st_one hg uwsX9 (by decide +kernel) rfl
    | 10 => exact st_one hg uwsX10 (by decide +kernel) rfl
    | k + 11 =>
      obtain ⟨c, iS, _⟩ := st_one (k := 0) hg uwsX0 (by decide +kernel) rfl
      exact ⟨c, iS, fun q hq => by simp [vwCl] at hq⟩
  exact ⟨fun k => (h k).choose, fun k => (h k).choose_spec.choose, fun k q hq => (h k).choose_spec.choose_spec q hq⟩
theorem st_prim {ty : FieldType} (h : (Cond.arrayClass ty).before args s = true) : ∃ c : ClassId, ArrOfT s c ty ∧ s.vm.findClass ("[" ++ ty.toString) = some c := by
  obtain ⟨c, k, comp, h1, h2, h3⟩ := Cond.arrayClass_spec h
  exact ⟨c, fun N z => ⟨(fun k h => by cases h), k, h2, comp, h3⟩, h1⟩
theorem aw_over {t : FieldType} (h : (Cond.arrayOver (.array t)).before args s = true) : ∃ (comp c : ClassId) (k : Class), s.vm.findClass (FieldType.array t).toString = some comp ∧ s.vm.classes[c]? = some k ∧ k.kind = .array comp (.array t) ∧ s.vm.findClass ("[" ++ (FieldType.array t).toString) = some c := by
  generalize hN : "[" ++ (FieldType.array t).toString = N
  simp only [Cond.before, Cond.holds, Cond.value, hN, beq_iff_eq, Option.bind_eq_some_iff, Option.map_eq_some_iff] at h
  obtain ⟨comp, hcomp, c, hI, k, hk, hb⟩ := h
  obtain ⟨hlt, hx, -⟩ := Array.findIdx?_eq_some_iff_getElem.mp hI
  cases (Array.getElem?_eq_getElem hlt).symm.trans hk
  refine ⟨comp, c, _, hcomp, hk, ?_⟩
  cases hkd : (s.vm.classes[c]).kind <;> simp only [hkd, Bool.false_eq_true, Bool.and_eq_true, decide_eq_true_eq, beq_iff_eq] at hx hb
  exact ⟨by rw [hx, hb.1], hb.2⟩
/-- the classes of the arrays -/
theorem st_arrays (hts : ∀ w ∈ lw_tbl, w.before args s = true) : ∃ dA : Nat → ClassId, (∀ (k : Nat) (q : ClassId × FieldType), [(dA 0, FieldType.int), (dA 1, .boolean), (dA 2, .long), (dA 3, .object "BumpsRiver$River"), (dA 4, .array .int)][k]? = some q → ArrOfT s q.1 q.2 ∧ va_RA s q.1 q.2) ∧ AO s := by
  obtain ⟨c0, a0, b0⟩ := st_prim (hts (.arrayClass .int) (by decide +kernel))
  obtain ⟨c1, a1, b1⟩ := st_prim (hts (.arrayClass .boolean) (by decide +kernel))
  obtain ⟨c2, a2, b2⟩ := st_prim (hts (.arrayClass .long) (by decide +kernel))
  have ho := hts (.arrayOver (.object "BumpsRiver$River")) (by decide +kernel)
  obtain ⟨comp3, c3, k3, h31, _, h33, h34, h35⟩ := Cond.arrayOver_spec ho
  obtain ⟨comp4, c4, k4, h41, h42, h43, h44⟩ := aw_over (hts (.arrayOver (.array .int)) (by decide +kernel))
  refine ⟨fun k => if k = 0 then c0 else if k = 1 then c1 else if k = 2 then c2 else if k = 3 then c3 else c4, ?_, va_AO.of ho, comp4, c4, k4, h41, h42, h43, h44⟩
  intro k q hq
  match k with
  | 0 => cases Option.some.inj hq; exact ⟨a0, b0⟩
  | 1 => cases Option.some.inj hq; exact ⟨a1, b1⟩
  | 2 => cases Option.some.inj hq; exact ⟨a2, b2⟩
  | 3 => cases Option.some.inj hq; exact ⟨fun N z => ⟨(fun k h => by cases h), k3, h33, comp3, h34⟩, k3, comp3, h33, h34, h31, h35⟩
  | 4 => cases Option.some.inj hq; exact ⟨fun N z => ⟨(fun k h => by cases h), k4, h42, comp4, h43⟩, h44⟩
  | k + 5 => simp at hq
abbrev gvn : List Cond := flatC (Jvm.Cond.and given_1 narrow_1)
theorem gv_1 : ∀ j : Nat, j < 5 → Cond.eq (.elem (.static "BumpsRiver" "HEARD_LEAST" "[I") (.int (Int32.ofNat j))) (.int (hLeast j)) ∈ gvn := by decide +kernel
theorem gv_2 : ∀ j : Nat, j < 5 → Cond.eq (.elem (.static "BumpsRiver" "HEARD_MOST" "[I") (.int (Int32.ofNat j))) (.int (hMost j)) ∈ gvn := by decide +kernel
def tmS (j : Nat) : Term := .string (strT.getD j ("", 0, "")).1 (strT.getD j ("", 0, "")).2.1
theorem gv_3 : ∀ i : Nat, i < 9 → lenS.getD i 0 < 2 ^ 31 ∧ Cond.exactly (tmS i) "java/lang/String" ∈ gvn ∧ Cond.eq (.field (tmS i) "java/lang/String" "coder" "B") (.int 0) ∈ gvn ∧ Cond.arrayOf (.field (tmS i) "java/lang/String" "value" "[B") .byte ∈ gvn ∧ Cond.eq (.length (.field (tmS i) "java/lang/String" "value" "[B")) (.int (Int32.ofNat (lenS.getD i 0))) ∈ gvn := by decide +kernel
theorem gv_4 : ∀ i : Nat, i < 9 → ∀ j : Nat, j < lenS.getD i 0 → Cond.eq (.elem (.field (tmS i) "java/lang/String" "value" "[B") (.int (Int32.ofNat j))) (.int ((bytS.getD i []).getD j 0)) ∈ gvn := by decide +kernel
theorem gv_5 : ∀ i : Nat, i < 9 → ∀ j : Nat, j < 9 → i = j ∨ Cond.not (Cond.eq (tmS i) (tmS j)) ∈ gvn ∨ Cond.not (Cond.eq (tmS j) (tmS i)) ∈ gvn := by decide +kernel
theorem gv_6 : ∀ q ∈ strT, Cond.stringRef q.1 q.2.1 q.2.2 ∈ lw_tbl := by decide +kernel
theorem st_static {n : String} {g : Nat → Int32} (hn : Cond.laysStatic "BumpsRiver" n "[I" ∈ lw_tbl) (ha : Cond.arrayOf (.static "BumpsRiver" n "[I") .int ∈ gvn) (hlen : Cond.eq (.length (.static "BumpsRiver" n "[I")) (.int (Int32.ofNat 5)) ∈ gvn) (hel : ∀ j : Nat, j < 5 → Cond.eq (.elem (.static "BumpsRiver" n "[I") (.int (Int32.ofNat j))) (.int (g j)) ∈ gvn)
    (hts : ∀ w ∈ lw_tbl, w.before args s = true) (hs : ∀ w ∈ gvn, w.before args s = true) (hA : ∀ a : Nat, a < s.heap.size → ¬ B < a) : ∃ t : Nat, va_Z "BumpsRiver" n "[I" (.ref t) (fun q : Nat => B < q) s s.heap ∧ va_T .int t 5 (fun j => .int (g j)) (fun q : Nat => B < q) s s.heap := by
  obtain ⟨t, h1, h2⟩ := va_Tof (N := 5) (f := fun j => Value.int (g j)) (A := fun q : Nat => B < q) (by decide) (hs _ ha) (va_eqt (hs _ hlen)) (fun j hj => va_eqt (hs _ (hel j hj))) hA
  exact ⟨t, va_Zref (hts _ hn) (hts (.initialized "BumpsRiver") (by decide +kernel)) h1 hA, h2⟩
theorem st_ex (D1 : va_G) (dA : Nat → ClassId) (hts : ∀ w ∈ lw_tbl, w.before args s = true) (hs : ∀ w ∈ gvn, w.before args s = true) (hA : ∀ a : Nat, a < s.heap.size → ¬ B < a) : ∃ f : Nat → Nat, Ex (D1, dA, f) B s := by
  obtain ⟨t0, a1, a2⟩ := st_static (n := "HEARD_LEAST") (g := hLeast) (by decide +kernel) (by decide +kernel) (by decide +kernel) gv_1 hts hs hA
  obtain ⟨t1, b1, b2⟩ := st_static (n := "HEARD_MOST") (g := hMost) (by decide +kernel) (by decide +kernel) (by decide +kernel) gv_2 hts hs hA
  obtain ⟨adK, adV, hS, hE⟩ := vk_Sof (N := 9) (tm := tmS) (len := lenS) (byt := bytS) (A := fun q : Nat => B < q) (args := args) (s := s) (fun i hi => (gv_3 i hi).1) (fun i hi => hs _ (gv_3 i hi).2.1) (fun i hi => hs _ (gv_3 i hi).2.2.1) (fun i hi => hs _ (gv_3 i hi).2.2.2.1) (fun i hi => hs _ (gv_3 i hi).2.2.2.2) (fun i hi j hj => hs _ (gv_4 i hi j hj)) (fun i j hi hj hne => by
    rcases gv_5 i hi j hj with h | h | h
    · exact absurd h hne
    · exact Or.inl (hs _ h)
    · exact Or.inr (hs _ h)) hA
  obtain ⟨f, f0, f1, fK, fV⟩ : ∃ f : Nat → Nat, f 0 = t0 ∧ f 1 = t1 ∧ (∀ i, i < 9 → f (2 + i) = adK i) ∧ ∀ i, i < 9 → f (20 + i) = adV i := by
    refine ⟨fun k => if k = 0 then t0 else if k = 1 then t1 else if k < 20 then adK (k - 2) else adV (k - 20), by simp, by simp, fun i hi => ?_, fun i hi => ?_⟩
    · dsimp only
      rw [if_neg (by omega), if_neg (by omega), if_pos (by omega), show 2 + i - 2 = i by omega]
    · dsimp only
      rw [if_neg (by omega), if_neg (by omega), if_neg (by omega), show 20 + i - 20 = i by omega]
  refine ⟨f, ⟨?_, ?_⟩, ⟨?_, ?_⟩, ?_, ⟨?_, ?_⟩, ?_, ?_, ?_, ?_, ?_⟩
  · show va_Z "BumpsRiver" "HEARD_LEAST" "[I" (.ref (f 0)) _ _ _
    rw [f0]; exact a1
  · show va_T .int (f 0) 5 _ _ _ _
    rw [f0]; exact a2
  · show va_Z "BumpsRiver" "HEARD_MOST" "[I" (.ref (f 1)) _ _ _
    rw [f1]; exact b1
  · show va_T .int (f 1) 5 _ _ _ _
    rw [f1]; exact b2
  · exact va_Zof (hts (.laysStatic "java/lang/String" "COMPACT_STRINGS" "Z") (by decide +kernel)) (hts (.initialized "java/lang/String") (by decide +kernel)) (va_eqi (hs (.eq (.static "java/lang/String" "COMPACT_STRINGS" "Z") (.int 1)) (by decide +kernel))) hA
  · intro i hi
    show va_O "java/lang/String" (f (2 + i)) _ _ _ ∧ va_OF "java/lang/String" "coder" "B" (.int 0) (f (2 + i)) _ _ _ ∧ va_OF "java/lang/String" "value" "[B" (.ref (f (20 + i))) (f (2 + i)) _ _ _ ∧ va_T .byte (f (20 + i)) _ _ _ _ _
    rw [fK i hi, fV i hi]
    exact hS.1 i hi
  · intro i j hi hj hij
    have hij : f (2 + i) = f (2 + j) := hij
    rw [fK i hi, fK j hj] at hij
    exact hS.2 i j hi hj hij
  · intro j q hq
    have hj : j < 9 := (List.getElem?_eq_some_iff.mp hq).1
    show vk_R q.1 q.2.1 q.2.2 (f (2 + j)) s
    rw [fK j hj]
    refine vk_R.of (hts _ (gv_6 q (List.mem_of_getElem? hq))) ?_
    have h9 := hE j hj
    have e9 : strT.getD j ("", 0, "") = q := by rw [List.getD_eq_getElem?_getD, hq]; rfl
    unfold tmS at h9
    rw [e9] at h9
    exact h9
  · exact va_Zqof (hts (.laysStatic "jdk/internal/util/Preconditions" "SIOOBE_FORMATTER" "Ljava/util/function/BiFunction;") (by decide +kernel)) (hts (.initialized "jdk/internal/util/Preconditions") (by decide +kernel)) (hs (.isRef (.static "jdk/internal/util/Preconditions" "SIOOBE_FORMATTER" "Ljava/util/function/BiFunction;")) (by decide +kernel)) hA
  · exact vx_Zqof (hts (.laysStatic Bundle.tN "UNASSIGNED_STACK" Bundle.steD) (by decide +kernel)) (hts (.initialized Bundle.tN) (by decide +kernel)) (hs (.isRef (.static Bundle.tN "UNASSIGNED_STACK" Bundle.steD)) (by decide +kernel)) hA
  · exact vx_Zqof (hts (.laysStatic Bundle.tN "SUPPRESSED_SENTINEL" Bundle.listD) (by decide +kernel)) (hts (.initialized Bundle.tN) (by decide +kernel)) (hs (.isRef (.static Bundle.tN "SUPPRESSED_SENTINEL" Bundle.listD)) (by decide +kernel)) hA
  · exact fun w hw => va_tabs (ns_tab w hw).1 rfl (hts w (ns_all w hw))
end LawStart
