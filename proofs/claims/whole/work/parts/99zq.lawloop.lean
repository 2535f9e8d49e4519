/-! the law: its loop (by program) -/
def R_law : String := "BumpsRiverLaw"
def lw_P (b : Addr) (xs : List Int32) (args : Array Value) (s : State) : Prop := args = #[.ref b] ∧ s.IntsAt b xs ∧ xs.length ≤ 320 ∧ (Jvm.Cond.and given_1 narrow_1).before args s = true
def lw_Q (_ : Array Value) (s : State) (o : Outcome) (t : State) : Prop := o = .returned (some (.int 1)) ∧ Framed s o t [] 600128 7301098
def lw_Z (below : List Frame) (a : Array Value) (s : State) : State → Prop := fun t => ∃ o, t.status = .running ∧ Ended t below o ∧ lw_Q a s o t
/-- the law's own end, with 1 on the stack, nothing written that was there before, its room as the claim has it -/
theorem lw_ret {p : Program} {l : Launch} {e : Env} {s : State} {m : MethodId} {below : List Frame} {meth : Method} {c : Code} {b : Nat} (hx : p.tables.exec = Jvm.exec) (hb : c.code = code) (hr : meth.sig.returnType = ret) (hlocks : meth.locks = false) {pc : Nat} {H : Heap} {ls : Array Slot} (hdg : decode code pc = .ok (.ireturn, 1)) : W p l e room_1 s m #[Value.ref b] below meth c H [] 600128 7301098 (lw_Z below #[Value.ref b] s) (F0 m pc ls [.int 1]) := by
  intro T hT X
  obtain ⟨fs, hret, hrun, hended, hW, hframe⟩ := X.leave (v := some (.int 1)) (hlocks := hlocks) (fun h => by rw [hr] at h; cases h)
  have hmeth' : T.vm.method? m = some meth := X.method'
  refine ⟨T.setFrames fs, ?_, .returned (some (.int 1)), hrun, hended, rfl, ⟨_, rfl⟩, hW, hframe⟩
  jvm_step X.here [X.here.top, hx, hb, hdg, hmeth', hr, ret, narrow_b1]
  (try refine ⟨rfl, ?_⟩); (try refine ⟨rfl, ?_⟩)
  first | (intro acts; rw [hret _ acts rfl rfl rfl]) | rw [hret _ _ rfl rfl rfl]
  exact Steps.refl _
/-- what holds at the law's entry: the machine, the code, the tables' words (any of lw_tbl by 'hts w (by decide +kernel)'), the script of L ints xs at the cell b, what the Statement gives of the start (any of its parts by flat_of_before) -/
def lw_At (p : Program) (s : State) (m : MethodId) (meth : Method) (c : Code) (b L : Nat) (xs : Nat → Int32) : Prop :=
  p.tables.exec = Jvm.exec ∧ c.code = code ∧ meth.sig.returnType = ret ∧ c.maxLocals = 8 ∧ s.vm.findClass R_law = some m.cls ∧ (∀ w ∈ lw_tbl, w.before #[Value.ref b] s = true) ∧ va_X b L xs s s.heap ∧ b < s.heap.size ∧ meth.locks = false ∧ (Jvm.Cond.and given_1 narrow_1).before #[Value.ref b] s = true
section LawEnd
variable {p : Program} {l : Launch} {e : Env} {R : Room} {s : State} {m : MethodId} {args : Array Value} {below : List Frame} {meth : Method} {c : Code} {H : Heap} {locs : List Loc} {cells slots : Nat} {ls : Array Slot} {G : GG} {B b L i : Nat} {xs : Nat → Int32} {M : Mem} {Q : State → Prop} {g : JFrame}
theorem lp_le (hL : L ≤ 320) (hi : i ≤ L) (h : ¬ (Int32.ofNat L - 5 < nI i)) : i + 5 ≤ L := by
  have h9 : ¬ (nI L - 5 < nI i) := h
  by_cases h5 : 5 ≤ L
  · rw [show nI L - (5 : Int32) = nI (L - 5) from sub_nIc h5, lt_nI (by omega) (by omega)] at h9
    omega
  · have hs : ∀ L, L < 5 → ∀ i, i < 5 → nI L - 5 < nI i := by decide
    exact absurd (hs L (by omega) i (by omega)) h9
/-- what was written is new: nothing that was there before -/
theorem lp_drop {k n : Nat} (hf : ∀ z ∈ locs, s.heap.size ≤ z.base) (h1 : cells ≤ k) (h2 : slots ≤ n) (kk : W p l e R s m args below meth c H [] k n Q g) : W p l e R s m args below meth c H locs cells slots Q g := fun T hT X =>
  kk T hT { X with same := X.same.weaken (fun x hx hlt => absurd hlt (Nat.not_lt.mpr (hf x hx))) h1 h2 }
set_option maxHeartbeats 4000000 in
set_option maxRecDepth 10000 in
theorem lp_turn (l : Launch) (hst : l.stackTraces = false) (cx : Cx p s m #[Value.ref b] c cL_law 8 RL G) (hr : meth.sig.returnType = some .boolean) (hlk : meth.locks = false) (hX : va_X b L xs s s.heap) (hbl : b < s.heap.size) (hbA : ¬ B < b) (hL : L ≤ 320) (hB : s.heap.size = B + 1) (hi : i ≤ L) (wo : Wo Ph G B 205 s M H locs) (rel : Rel M) (hl : lv_has ls 8 [(4, .int (nI i)), (0, .ref b), (1, .ref (B + 1)), (2, .ref (B + 169)), (3, .ref (B + 205))]) (hcl : cells + 1 ≤ 600128) (hsl : slots + 6 ≤ 7301098)
    (kk : i + 5 ≤ L → ∀ (M1 : Mem) (H1 : Heap) (locs1 : List Loc) (ls1 : Array Slot), Wo Ph G B 205 s M1 H1 locs1 → Rel M1 → lv_has ls1 8 [(4, .int (nI (i + 5))), (0, .ref b), (1, .ref (B + 1)), (2, .ref (B + 169)), (3, .ref (B + 205))] → W p l e room_1 s m #[Value.ref b] below meth c H1 locs1 (cells + 1) (slots + 6) (lw_Z below #[Value.ref b] s) (F0 m 23 ls1 [])) : W p l e room_1 s m #[Value.ref b] below meth c H locs cells slots (lw_Z below #[Value.ref b] s) (F0 m 23 ls []) := by
  refine lv_iload cx.1 cx.2.1 dL_law_23 (lv_at hl 0 rfl) ?_
  refine lv_aload_n cx.1 cx.2.1 dL_law_25 rfl (lv_at hl 1 rfl) ?_
  refine va_slen cx.1 cx.2.1 hX hbl hbA wo.2.1 dL_law_26 ?_
  refine lv_iconst (v := 5) cx.1 cx.2.1 dL_law_27 (by decide) ?_
  refine lv_isub cx.1 cx.2.1 dL_law_28 ?_
  refine lv_icmp_gt (tgt := 1501) cx.1 cx.2.1 dL_law_29 (by decide) (fun hg => ?_) (fun hg => ?_)
  · refine lv_iconst (v := 1) cx.1 cx.2.1 dL_law_1501 (by decide) ?_
    exact lp_drop (fun z hz => by rw [hB]; exact wo.2.1.2.2 z hz) (by omega) (by omega) (lw_ret cx.1 cx.2.1 hr hlk dL_law_1502)
  have h5 : i + 5 ≤ L := lp_le hL hi hg
  refine lv_aload_n cx.1 cx.2.1 dL_law_32 rfl (lv_at hl 1 rfl) ?_
  refine lv_iload cx.1 cx.2.1 dL_law_33 (lv_at hl 0 rfl) ?_
  refine va_sld cx.1 cx.2.1 hX hbl hbA wo.2.1 (fun q => ?_) dL_law_35 ?_
  · rcases q with q | q
    · exact nI_pos (by omega) q
    · rw [nI_clamp (by omega)] at q; omega
  refine lv_bipush (v := 63) cx.1 cx.2.1 dL_law_36 (by decide) ?_
  refine lv_iand cx.1 cx.2.1 dL_law_38 ?_
  generalize xs (nI i).toNatClampNeg &&& 63 = x
  have kz : ∀ (M1 : Mem) (H1 : Heap) (locs1 : List Loc) (ls1 : Array Slot), Wo Ph G B 205 s M1 H1 locs1 → Rel M1 → lv_has ls1 8 [(4, .int (nI i)), (0, .ref b), (1, .ref (B + 1)), (2, .ref (B + 169)), (3, .ref (B + 205))] → W p l e room_1 s m #[Value.ref b] below meth c H1 locs1 (cells + 1) (slots + 6) (lw_Z below #[Value.ref b] s) (F0 m 1495 ls1 []) := by
    intro M1 H1 locs1 ls1 wo1 rel1 hl1
    refine lv_iinc (k := 0) (v := nI (i + 5)) cx.1 cx.2.1 dL_law_1495 hl1 rfl (nI_add i 5) (by decide) rfl (fun ls2 hl2 => ?_)
    refine lv_goto (tgt := 23) cx.1 cx.2.1 dL_law_1498 (by decide) ?_
    exact kk h5 M1 H1 locs1 ls2 wo1 rel1 hl2
  by_cases k0 : x = 0
  · exact r_tin (tgt := 240) cx k0 dL_law_39 (by decide) (by decide) rfl (by decide) (lc_0 l cx hr hlk hX hbl hbA h5 hL wo rel hl hcl hsl kz)
  by_cases k1 : x = 1
  · exact r_tin (tgt := 265) cx k1 dL_law_39 (by decide) (by decide) rfl (by decide) (lc_1 l cx hr hlk hX hbl hbA h5 hL wo rel hl hcl hsl kz)
  by_cases k2 : x = 2
  · exact r_tin (tgt := 290) cx k2 dL_law_39 (by decide) (by decide) rfl (by decide) (lc_2 l cx hr hlk hX hbl hbA h5 hL wo rel hl hcl hsl kz)
  by_cases k3 : x = 3
  · exact r_tin (tgt := 303) cx k3 dL_law_39 (by decide) (by decide) rfl (by decide) (lc_3 l cx hr hlk hX hbl hbA h5 hL wo rel hl hcl hsl kz)
  by_cases k4 : x = 4
  · exact r_tin (tgt := 316) cx k4 dL_law_39 (by decide) (by decide) rfl (by decide) (lc_4 l hst cx hr hlk hX hbl hbA h5 hL wo rel hl hcl hsl kz)
  by_cases k5 : x = 5
  · exact r_tin (tgt := 384) cx k5 dL_law_39 (by decide) (by decide) rfl (by decide) (lc_5 l hst cx hr hlk hX hbl hbA h5 hL wo rel hl hcl hsl kz)
  by_cases k6 : x = 6
  · exact r_tin (tgt := 440) cx k6 dL_law_39 (by decide) (by decide) rfl (by decide) (lc_6 l cx hr hlk hX hbl hbA h5 hL wo rel hl hcl hsl kz)
  by_cases k7 : x = 7
  · exact r_tin (tgt := 501) cx k7 dL_law_39 (by decide) (by decide) rfl (by decide) (lc_7 l cx hr hlk hX hbl hbA h5 hL wo rel hl hcl hsl kz)
  by_cases k8 : x = 8
  · exact r_tin (tgt := 526) cx k8 dL_law_39 (by decide) (by decide) rfl (by decide) (lc_8 l cx hr hlk hX hbl hbA h5 hL wo rel hl hcl hsl kz)
  by_cases k9 : x = 9
  · exact r_tin (tgt := 551) cx k9 dL_law_39 (by decide) (by decide) rfl (by decide) (lc_9 l cx hr hlk hX hbl hbA h5 hL wo rel hl hcl hsl kz)
  by_cases k10 : x = 10
  · exact r_tin (tgt := 576) cx k10 dL_law_39 (by decide) (by decide) rfl (by decide) (lc_10 l cx hr hlk hX hbl hbA h5 hL wo rel hl hcl hsl kz)
  by_cases k11 : x = 11
  · exact r_tin (tgt := 613) cx k11 dL_law_39 (by decide) (by decide) rfl (by decide) (lc_11 l cx hr hlk hX hbl hbA h5 hL wo rel hl hcl hsl kz)
  by_cases k12 : x = 12
  · exact r_tin (tgt := 638) cx k12 dL_law_39 (by decide) (by decide) rfl (by decide) (lc_12 l cx hr hlk hX hbl hbA h5 hL wo rel hl hcl hsl kz)
  by_cases k13 : x = 13
  · exact r_tin (tgt := 663) cx k13 dL_law_39 (by decide) (by decide) rfl (by decide) (lc_13 l cx hr hlk hX hbl hbA h5 hL wo rel hl hcl hsl kz)
  by_cases k14 : x = 14
  · exact r_tin (tgt := 676) cx k14 dL_law_39 (by decide) (by decide) rfl (by decide) (lc_14 l cx hr hlk hX hbl hbA h5 hL wo rel hl hcl hsl kz)
  by_cases k15 : x = 15
  · exact r_tin (tgt := 689) cx k15 dL_law_39 (by decide) (by decide) rfl (by decide) (lc_15 l cx hr hlk hX hbl hbA h5 hL wo rel hl hcl hsl kz)
  by_cases k16 : x = 16
  · exact r_tin (tgt := 702) cx k16 dL_law_39 (by decide) (by decide) rfl (by decide) (lc_16 l cx hr hlk hX hbl hbA h5 hL wo rel hl hcl hsl kz)
  by_cases k17 : x = 17
  · exact r_tin (tgt := 739) cx k17 dL_law_39 (by decide) (by decide) rfl (by decide) (lc_17 l cx hr hlk hX hbl hbA h5 hL wo rel hl hcl hsl kz)
  by_cases k18 : x = 18
  · exact r_tin (tgt := 752) cx k18 dL_law_39 (by decide) (by decide) rfl (by decide) (lc_18 l cx hr hlk hX hbl hbA h5 hL wo rel hl hcl hsl kz)
  by_cases k19 : x = 19
  · exact r_tin (tgt := 777) cx k19 dL_law_39 (by decide) (by decide) rfl (by decide) (lc_19 l cx hr hlk hX hbl hbA h5 hL wo rel hl hcl hsl kz)
  by_cases k20 : x = 20
  · exact r_tin (tgt := 814) cx k20 dL_law_39 (by decide) (by decide) rfl (by decide) (lc_20 l cx hr hlk hX hbl hbA h5 hL wo rel hl hcl hsl kz)
  by_cases k21 : x = 21
  · exact r_tin (tgt := 839) cx k21 dL_law_39 (by decide) (by decide) rfl (by decide) (lc_21 l cx hr hlk hX hbl hbA h5 hL wo rel hl hcl hsl kz)
  by_cases k22 : x = 22
  · exact r_tin (tgt := 876) cx k22 dL_law_39 (by decide) (by decide) rfl (by decide) (lc_22 l cx hr hlk hX hbl hbA h5 hL wo rel hl hcl hsl kz)
  by_cases k23 : x = 23
  · exact r_tin (tgt := 901) cx k23 dL_law_39 (by decide) (by decide) rfl (by decide) (lc_23 l cx hr hlk hX hbl hbA h5 hL wo rel hl hcl hsl kz)
  by_cases k24 : x = 24
  · exact r_tin (tgt := 914) cx k24 dL_law_39 (by decide) (by decide) rfl (by decide) (lc_24 l cx hr hlk hX hbl hbA h5 hL wo rel hl hcl hsl kz)
  by_cases k25 : x = 25
  · exact r_tin (tgt := 927) cx k25 dL_law_39 (by decide) (by decide) rfl (by decide) (lc_25 l cx hr hlk hX hbl hbA h5 hL wo rel hl hcl hsl kz)
  by_cases k26 : x = 26
  · exact r_tin (tgt := 952) cx k26 dL_law_39 (by decide) (by decide) rfl (by decide) (lc_26 l cx hr hlk hX hbl hbA h5 hL wo rel hl hcl hsl kz)
  by_cases k27 : x = 27
  · exact r_tin (tgt := 989) cx k27 dL_law_39 (by decide) (by decide) rfl (by decide) (lc_27 l cx hr hlk hX hbl hbA h5 hL wo rel hl hcl hsl kz)
  by_cases k28 : x = 28
  · exact r_tin (tgt := 1002) cx k28 dL_law_39 (by decide) (by decide) rfl (by decide) (lc_28 l cx hr hlk hX hbl hbA h5 hL wo rel hl hcl hsl kz)
  by_cases k29 : x = 29
  · exact r_tin (tgt := 1015) cx k29 dL_law_39 (by decide) (by decide) rfl (by decide) (lc_29 l cx hr hlk hX hbl hbA h5 hL wo rel hl hcl hsl kz)
  by_cases k30 : x = 30
  · exact r_tin (tgt := 1028) cx k30 dL_law_39 (by decide) (by decide) rfl (by decide) (lc_30 l cx hr hlk hX hbl hbA h5 hL wo rel hl hcl hsl kz)
  by_cases k31 : x = 31
  · exact r_tin (tgt := 1053) cx k31 dL_law_39 (by decide) (by decide) rfl (by decide) (lc_31 l cx hr hlk hX hbl hbA h5 hL wo rel hl hcl hsl kz)
  by_cases k32 : x = 32
  · exact r_tin (tgt := 1066) cx k32 dL_law_39 (by decide) (by decide) rfl (by decide) (lc_32 l cx hr hlk hX hbl hbA h5 hL wo rel hl hcl hsl kz)
  by_cases k33 : x = 33
  · exact r_tin (tgt := 1103) cx k33 dL_law_39 (by decide) (by decide) rfl (by decide) (lc_33 l cx hr hlk hX hbl hbA h5 hL wo rel hl hcl hsl kz)
  by_cases k34 : x = 34
  · exact r_tin (tgt := 1140) cx k34 dL_law_39 (by decide) (by decide) rfl (by decide) (lc_34 l cx hr hlk hX hbl hbA h5 hL wo rel hl hcl hsl kz)
  by_cases k35 : x = 35
  · exact r_tin (tgt := 1177) cx k35 dL_law_39 (by decide) (by decide) rfl (by decide) (lc_35 l cx hr hlk hX hbl hbA h5 hL wo rel hl hcl hsl kz)
  by_cases k36 : x = 36
  · exact r_tin (tgt := 1190) cx k36 dL_law_39 (by decide) (by decide) rfl (by decide) (lc_36 l cx hr hlk hX hbl hbA h5 hL wo rel hl hcl hsl kz)
  by_cases k37 : x = 37
  · exact r_tin (tgt := 1203) cx k37 dL_law_39 (by decide) (by decide) rfl (by decide) (lc_37 l cx hr hlk hX hbl hbA h5 hL wo rel hl hcl hsl kz)
  by_cases k38 : x = 38
  · exact r_tin (tgt := 1216) cx k38 dL_law_39 (by decide) (by decide) rfl (by decide) (lc_38 l cx hr hlk hX hbl hbA h5 hL wo rel hl hcl hsl kz)
  by_cases k39 : x = 39
  · exact r_tin (tgt := 1253) cx k39 dL_law_39 (by decide) (by decide) rfl (by decide) (lc_39 l cx hr hlk hX hbl hbA h5 hL wo rel hl hcl hsl kz)
  by_cases k40 : x = 40
  · exact r_tin (tgt := 1290) cx k40 dL_law_39 (by decide) (by decide) rfl (by decide) (lc_40 l cx hr hlk hX hbl hbA h5 hL wo rel hl hcl hsl kz)
  by_cases k41 : x = 41
  · exact r_tin (tgt := 1303) cx k41 dL_law_39 (by decide) (by decide) rfl (by decide) (lc_41 l cx hr hlk hX hbl hbA h5 hL wo rel hl hcl hsl kz)
  by_cases k42 : x = 42
  · exact r_tin (tgt := 1328) cx k42 dL_law_39 (by decide) (by decide) rfl (by decide) (lc_42 l cx hr hlk hX hbl hbA h5 hL wo rel hl hcl hsl kz)
  by_cases k43 : x = 43
  · exact r_tin (tgt := 1365) cx k43 dL_law_39 (by decide) (by decide) rfl (by decide) (lc_43 l cx hr hlk hX hbl hbA h5 hL wo rel hl hcl hsl kz)
  by_cases k44 : x = 44
  · exact r_tin (tgt := 1390) cx k44 dL_law_39 (by decide) (by decide) rfl (by decide) (lc_44 l cx hr hlk hX hbl hbA h5 hL wo rel hl hcl hsl kz)
  by_cases k45 : x = 45
  · exact r_tin (tgt := 1415) cx k45 dL_law_39 (by decide) (by decide) rfl (by decide) (lc_45 l cx hr hlk hX hbl hbA h5 hL wo rel hl hcl hsl kz)
  by_cases k46 : x = 46
  · exact r_tin (tgt := 1440) cx k46 dL_law_39 (by decide) (by decide) rfl (by decide) (lc_46 l hst cx hr hlk hX hbl hbA h5 hL wo rel hl hcl hsl kz)
  have n0 := i_ne (n := 0) k0 (by decide)
  have n1 := i_ne (n := 1) k1 (by decide)
  have n2 := i_ne (n := 2) k2 (by decide)
  have n3 := i_ne (n := 3) k3 (by decide)
  have n4 := i_ne (n := 4) k4 (by decide)
  have n5 := i_ne (n := 5) k5 (by decide)
  have n6 := i_ne (n := 6) k6 (by decide)
  have n7 := i_ne (n := 7) k7 (by decide)
  have n8 := i_ne (n := 8) k8 (by decide)
  have n9 := i_ne (n := 9) k9 (by decide)
  have n10 := i_ne (n := 10) k10 (by decide)
  have n11 := i_ne (n := 11) k11 (by decide)
  have n12 := i_ne (n := 12) k12 (by decide)
  have n13 := i_ne (n := 13) k13 (by decide)
  have n14 := i_ne (n := 14) k14 (by decide)
  have n15 := i_ne (n := 15) k15 (by decide)
  have n16 := i_ne (n := 16) k16 (by decide)
  have n17 := i_ne (n := 17) k17 (by decide)
  have n18 := i_ne (n := 18) k18 (by decide)
  have n19 := i_ne (n := 19) k19 (by decide)
  have n20 := i_ne (n := 20) k20 (by decide)
  have n21 := i_ne (n := 21) k21 (by decide)
  have n22 := i_ne (n := 22) k22 (by decide)
  have n23 := i_ne (n := 23) k23 (by decide)
  have n24 := i_ne (n := 24) k24 (by decide)
  have n25 := i_ne (n := 25) k25 (by decide)
  have n26 := i_ne (n := 26) k26 (by decide)
  have n27 := i_ne (n := 27) k27 (by decide)
  have n28 := i_ne (n := 28) k28 (by decide)
  have n29 := i_ne (n := 29) k29 (by decide)
  have n30 := i_ne (n := 30) k30 (by decide)
  have n31 := i_ne (n := 31) k31 (by decide)
  have n32 := i_ne (n := 32) k32 (by decide)
  have n33 := i_ne (n := 33) k33 (by decide)
  have n34 := i_ne (n := 34) k34 (by decide)
  have n35 := i_ne (n := 35) k35 (by decide)
  have n36 := i_ne (n := 36) k36 (by decide)
  have n37 := i_ne (n := 37) k37 (by decide)
  have n38 := i_ne (n := 38) k38 (by decide)
  have n39 := i_ne (n := 39) k39 (by decide)
  have n40 := i_ne (n := 40) k40 (by decide)
  have n41 := i_ne (n := 41) k41 (by decide)
  have n42 := i_ne (n := 42) k42 (by decide)
  have n43 := i_ne (n := 43) k43 (by decide)
  have n44 := i_ne (n := 44) k44 (by decide)
  have n45 := i_ne (n := 45) k45 (by decide)
  have n46 := i_ne (n := 46) k46 (by decide)
  refine lv_tableOut (tgt := 1495) cx.1 cx.2.1 dL_law_39 ?_ (by decide) ?_
  · clear kk kz hX hl rel wo cx
    omega
  · exact w_wide (by omega) (by omega) (kz M H locs ls wo rel hl)
theorem lp_loop (l : Launch) (hst : l.stackTraces = false) (cx : Cx p s m #[Value.ref b] c cL_law 8 RL G) (hr : meth.sig.returnType = some .boolean) (hlk : meth.locks = false) (hX : va_X b L xs s s.heap) (hbl : b < s.heap.size) (hbA : ¬ B < b) (hL : L ≤ 320) (hB : s.heap.size = B + 1) : ∀ (n i cells slots : Nat) (M : Mem) (H : Heap) (locs : List Loc) (ls : Array Slot), L ≤ i + n → i ≤ L → cells + n ≤ 600000 → slots + 6 * n ≤ 7300000 → Wo Ph G B 205 s M H locs → Rel M → lv_has ls 8 [(4, .int (nI i)), (0, .ref b), (1, .ref (B + 1)), (2, .ref (B + 169)), (3, .ref (B + 205))] → W p l e room_1 s m #[Value.ref b] below meth c H locs cells slots (lw_Z below #[Value.ref b] s) (F0 m 23 ls []) := by
  intro n
  induction n with
  | zero =>
    intro i cells slots M H locs ls h1 h2 h3 h4 wo rel hl
    exact lp_turn l hst cx hr hlk hX hbl hbA hL hB h2 wo rel hl (by omega) (by omega) (fun h5 => absurd h5 (by omega))
  | succ n ih =>
    intro i cells slots M H locs ls h1 h2 h3 h4 wo rel hl
    exact lp_turn l hst cx hr hlk hX hbl hbA hL hB h2 wo rel hl (by omega) (by omega) (fun h5 M1 H1 locs1 ls1 wo1 rel1 hl1 => ih (i + 5) (cells + 1) (slots + 6) M1 H1 locs1 ls1 (by omega) h5 (by omega) (by omega) wo1 rel1 hl1)
end LawEnd
