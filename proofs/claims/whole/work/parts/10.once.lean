/-! links, addresses: by program -/
theorem uwsX4 : ∀ w ∈ u_ws RX4 TX4 9, w ∈ gtbl := fun w h => List.mem_filter.mpr ⟨(show ∀ w ∈ u_ws RX4 TX4 9, w ∈ lw_tbl by decide +kernel) w h, (show ∀ w ∈ u_ws RX4 TX4 9, goodWord w = true by decide +kernel) w h⟩
theorem fiX4_31 : FI RX4 31 4 0 0 := ⟨RX4, TX4, 9, rfl, by decide, (mem_t1 71 (by decide +kernel)), uwsX4, rfl⟩
theorem fpX4_31 : FP RX4 31 4 0 0 false .int := ⟨RX4, TX4, 9, tyX4, rfl, by decide, (mem_t1 71 (by decide +kernel)), uwsX4, rfl, tyX4_ok, nmX4, rfl, rfl⟩
theorem fiX4_24 : FI RX4 24 4 5 0 := ⟨RX4, TX4, 9, rfl, by decide, (mem_t1 84 (by decide +kernel)), uwsX4, rfl⟩
theorem fpX4_24 : FP RX4 24 4 5 0 false .int := ⟨RX4, TX4, 9, tyX4, rfl, by decide, (mem_t1 84 (by decide +kernel)), uwsX4, rfl, tyX4_ok, nmX4, rfl, rfl⟩
theorem fiX4_28 : FI RX4 28 4 6 0 := ⟨RX4, TX4, 9, rfl, by decide, (mem_t1 87 (by decide +kernel)), uwsX4, rfl⟩
theorem fpX4_28 : FP RX4 28 4 6 0 false .int := ⟨RX4, TX4, 9, tyX4, rfl, by decide, (mem_t1 87 (by decide +kernel)), uwsX4, rfl, tyX4_ok, nmX4, rfl, rfl⟩
theorem fiX4_34 : FI RX4 34 4 7 0 := ⟨RX4, TX4, 9, rfl, by decide, (mem_t1 90 (by decide +kernel)), uwsX4, rfl⟩
theorem fpX4_34 : FP RX4 34 4 7 0 false .int := ⟨RX4, TX4, 9, tyX4, rfl, by decide, (mem_t1 90 (by decide +kernel)), uwsX4, rfl, tyX4_ok, nmX4, rfl, rfl⟩
theorem fiX4_37 : FI RX4 37 4 8 0 := ⟨RX4, TX4, 9, rfl, by decide, (mem_t1 93 (by decide +kernel)), uwsX4, rfl⟩
theorem fpX4_37 : FP RX4 37 4 8 0 false .int := ⟨RX4, TX4, 9, tyX4, rfl, by decide, (mem_t1 93 (by decide +kernel)), uwsX4, rfl, tyX4_ok, nmX4, rfl, rfl⟩
theorem fiX4_9 : FI RX4 9 4 1 1 := ⟨RX4, TX4, 9, rfl, by decide, (mem_t1 73 (by decide +kernel)), uwsX4, rfl⟩
theorem fiX4_15 : FI RX4 15 4 2 1 := ⟨RX4, TX4, 9, rfl, by decide, (mem_t1 76 (by decide +kernel)), uwsX4, rfl⟩
theorem fiX4_18 : FI RX4 18 4 3 1 := ⟨RX4, TX4, 9, rfl, by decide, (mem_t1 79 (by decide +kernel)), uwsX4, rfl⟩
theorem fiX4_21 : FI RX4 21 4 4 1 := ⟨RX4, TX4, 9, rfl, by decide, (mem_t1 81 (by decide +kernel)), uwsX4, rfl⟩
theorem cvX4_40 : CV RX4 40 yX4_has cX4_has 2 (some .boolean) 1 := ⟨(mem_t3 28 (by decide +kernel)), (mem_t3 29 (by decide +kernel)), (mem_t3 30 (by decide +kernel)), (mem_t1 4 (by decide +kernel)), (mem_t3 31 (by decide +kernel)), ⟨by decide +kernel, by decide +kernel, by decide +kernel⟩, by decide⟩
theorem cvX4_44 : CV RX4 44 yX4_put cX4_put 3 none 2 := ⟨(mem_t3 32 (by decide +kernel)), (mem_t3 33 (by decide +kernel)), (mem_t3 34 (by decide +kernel)), (mem_t1 4 (by decide +kernel)), (mem_t3 35 (by decide +kernel)), ⟨by decide +kernel, by decide +kernel, by decide +kernel⟩, by decide⟩
theorem mmX4_48 : MM RX4 48 Lib.Math.min.name Lib.Math.min.code 2 := ⟨(mem_t2 191 (by decide +kernel)), (mem_t2 192 (by decide +kernel)), (mem_t1 12 (by decide +kernel)), (mem_t2 193 (by decide +kernel))⟩
theorem mmX4_54 : MM RX4 54 Lib.Math.max.name Lib.Math.max.code 2 := ⟨(mem_t2 194 (by decide +kernel)), (mem_t2 195 (by decide +kernel)), (mem_t1 12 (by decide +kernel)), (mem_t2 196 (by decide +kernel))⟩
theorem uwsX8 : ∀ w ∈ u_ws RX8 TX8 2, w ∈ gtbl := fun w h => List.mem_filter.mpr ⟨(show ∀ w ∈ u_ws RX8 TX8 2, w ∈ lw_tbl by decide +kernel) w h, (show ∀ w ∈ u_ws RX8 TX8 2, goodWord w = true by decide +kernel) w h⟩
theorem fiX8_15 : FI RX8 15 8 1 0 := ⟨RX8, TX8, 2, rfl, by decide, (mem_t1 39 (by decide +kernel)), uwsX8, rfl⟩
theorem ad_2 : (2 : Nat) ≠ 0 ∧ 2 ≤ 205 ∧ (sh 2).1 = 8 + 10 := by decide +kernel
theorem fiX8_9 : FI RX8 9 8 0 1 := ⟨RX8, TX8, 2, rfl, by decide, (mem_t1 36 (by decide +kernel)), uwsX8, rfl⟩
theorem fn_2_0 {R : Nat → Nat → Nat} (h : Ph R) : R 2 0 = 3 := h.1 (2, 0, 3) (List.mem_of_getElem? (i := 17) (by decide +kernel))
theorem ln_3 : ln 3 = 80 := by decide +kernel
theorem ad_3 : (3 : Nat) ≠ 0 ∧ 3 ≤ 205 ∧ (sh 3).1 = 0 := by decide +kernel
theorem fpX8_15 : FP RX8 15 8 1 0 false .int := ⟨RX8, TX8, 2, tyX8, rfl, by decide, (mem_t1 39 (by decide +kernel)), uwsX8, rfl, tyX8_ok, nmX8, rfl, rfl⟩
theorem cvX8_19 : CV RX8 19 yX8_signAt cX8_signAt 2 (some .int) 1 := ⟨(mem_t2 131 (by decide +kernel)), (mem_t2 132 (by decide +kernel)), (mem_t2 133 (by decide +kernel)), (mem_t1 2 (by decide +kernel)), (mem_t2 134 (by decide +kernel)), ⟨by decide +kernel, by decide +kernel, by decide +kernel⟩, by decide⟩
theorem uwsX5 : ∀ w ∈ u_ws RX5 TX5 2, w ∈ gtbl := fun w h => List.mem_filter.mpr ⟨(show ∀ w ∈ u_ws RX5 TX5 2, w ∈ lw_tbl by decide +kernel) w h, (show ∀ w ∈ u_ws RX5 TX5 2, goodWord w = true by decide +kernel) w h⟩
theorem fiX5_15 : FI RX5 15 5 1 0 := ⟨RX5, TX5, 2, rfl, by decide, (mem_t1 56 (by decide +kernel)), uwsX5, rfl⟩
theorem ad_4 : (4 : Nat) ≠ 0 ∧ 4 ≤ 205 ∧ (sh 4).1 = 5 + 10 := by decide +kernel
theorem fiX5_9 : FI RX5 9 5 0 1 := ⟨RX5, TX5, 2, rfl, by decide, (mem_t1 54 (by decide +kernel)), uwsX5, rfl⟩
theorem fn_4_0 {R : Nat → Nat → Nat} (h : Ph R) : R 4 0 = 5 := h.1 (4, 0, 5) (List.mem_of_getElem? (i := 18) (by decide +kernel))
theorem ln_5 : ln 5 = 16 := by decide +kernel
theorem ad_5 : (5 : Nat) ≠ 0 ∧ 5 ≤ 205 ∧ (sh 5).1 = 2 := by decide +kernel
theorem fpX5_15 : FP RX5 15 5 1 0 false .int := ⟨RX5, TX5, 2, tyX5, rfl, by decide, (mem_t1 56 (by decide +kernel)), uwsX5, rfl, tyX5_ok, nmX5, rfl, rfl⟩
theorem cvX5_19 : CV RX5 19 yX5_add cX5_add 3 none 1 := ⟨(mem_t3 40 (by decide +kernel)), (mem_t3 41 (by decide +kernel)), (mem_t3 42 (by decide +kernel)), (mem_t1 3 (by decide +kernel)), (mem_t3 43 (by decide +kernel)), ⟨by decide +kernel, by decide +kernel, by decide +kernel⟩, by decide⟩
theorem uwsX7 : ∀ w ∈ u_ws RX7 TX7 3, w ∈ gtbl := fun w h => List.mem_filter.mpr ⟨(show ∀ w ∈ u_ws RX7 TX7 3, w ∈ lw_tbl by decide +kernel) w h, (show ∀ w ∈ u_ws RX7 TX7 3, goodWord w = true by decide +kernel) w h⟩
theorem fiX7_18 : FI RX7 18 7 2 0 := ⟨RX7, TX7, 3, rfl, by decide, (mem_t1 142 (by decide +kernel)), uwsX7, rfl⟩
theorem ad_105 : (105 : Nat) ≠ 0 ∧ 105 ≤ 205 ∧ (sh 105).1 = 7 + 10 := by decide +kernel
theorem fiX7_9 : FI RX7 9 7 0 1 := ⟨RX7, TX7, 3, rfl, by decide, (mem_t1 138 (by decide +kernel)), uwsX7, rfl⟩
theorem fn_105_0 {R : Nat → Nat → Nat} (h : Ph R) : R 105 0 = 106 := h.1 (105, 0, 106) (List.mem_of_getElem? (i := 99) (by decide +kernel))
theorem ln_106 : ln 106 = 12 := by decide +kernel
theorem ad_106 : (106 : Nat) ≠ 0 ∧ 106 ≤ 205 ∧ (sh 106).1 = 0 := by decide +kernel
theorem fiX7_15 : FI RX7 15 7 1 1 := ⟨RX7, TX7, 3, rfl, by decide, (mem_t1 140 (by decide +kernel)), uwsX7, rfl⟩
theorem fn_105_1 {R : Nat → Nat → Nat} (h : Ph R) : R 105 1 = 107 := h.1 (105, 1, 107) (List.mem_of_getElem? (i := 100) (by decide +kernel))
theorem ln_107 : ln 107 = 12 := by decide +kernel
theorem ad_107 : (107 : Nat) ≠ 0 ∧ 107 ≤ 205 ∧ (sh 107).1 = 0 := by decide +kernel
theorem fpX7_18 : FP RX7 18 7 2 0 false .int := ⟨RX7, TX7, 3, tyX7, rfl, by decide, (mem_t1 142 (by decide +kernel)), uwsX7, rfl, tyX7_ok, nmX7, rfl, rfl⟩
theorem uwsX0 : ∀ w ∈ u_ws RX0 TX0 1, w ∈ gtbl := fun w h => List.mem_filter.mpr ⟨(show ∀ w ∈ u_ws RX0 TX0 1, w ∈ lw_tbl by decide +kernel) w h, (show ∀ w ∈ u_ws RX0 TX0 1, goodWord w = true by decide +kernel) w h⟩
theorem fiX0_7 : FI RX0 7 0 0 0 := ⟨RX0, TX0, 1, rfl, by decide, (mem_t2 2 (by decide +kernel)), uwsX0, rfl⟩
theorem ad_141 : (141 : Nat) ≠ 0 ∧ 141 ≤ 205 ∧ (sh 141).1 = 0 + 10 := by decide +kernel
theorem kcX0_13 : Cond.constant RX0 13 1103515245 ∈ gtbl := (mem_t4 171 (by decide +kernel))
theorem fpX0_7 : FP RX0 7 0 0 0 false .int := ⟨RX0, TX0, 1, tyX0, rfl, by decide, (mem_t2 2 (by decide +kernel)), uwsX0, rfl, tyX0_ok, nmX0, rfl, rfl⟩
theorem uwsX2 : ∀ w ∈ u_ws RX2 TX2 2, w ∈ gtbl := fun w h => List.mem_filter.mpr ⟨(show ∀ w ∈ u_ws RX2 TX2 2, w ∈ lw_tbl by decide +kernel) w h, (show ∀ w ∈ u_ws RX2 TX2 2, goodWord w = true by decide +kernel) w h⟩
theorem fiX2_11 : FI RX2 11 2 0 1 := ⟨RX2, TX2, 2, rfl, by decide, (mem_t1 124 (by decide +kernel)), uwsX2, rfl⟩
theorem ad_26 : (26 : Nat) ≠ 0 ∧ 26 ≤ 205 ∧ (sh 26).1 = 2 + 10 := by decide +kernel
theorem fn_26_0 {R : Nat → Nat → Nat} (h : Ph R) : R 26 0 = 27 := h.1 (26, 0, 27) (List.mem_of_getElem? (i := 35) (by decide +kernel))
theorem ln_27 : ln 27 = 15 := by decide +kernel
theorem ad_27 : (27 : Nat) ≠ 0 ∧ 27 ≤ 205 ∧ (sh 27).1 = 3 := by decide +kernel
theorem fpX2_18 : FP RX2 18 2 1 0 false .int := ⟨RX2, TX2, 2, tyX2, rfl, by decide, (mem_t1 125 (by decide +kernel)), uwsX2, rfl, tyX2_ok, nmX2, rfl, rfl⟩
theorem fiX2_18 : FI RX2 18 2 1 0 := ⟨RX2, TX2, 2, rfl, by decide, (mem_t1 125 (by decide +kernel)), uwsX2, rfl⟩
theorem cvX2_22 : CV RX2 22 yX2_dropOldest cX2_dropOldest 3 none 0 := ⟨(mem_t2 209 (by decide +kernel)), (mem_t2 211 (by decide +kernel)), (mem_g 12 (by decide +kernel) (by decide +kernel)), (mem_t1 5 (by decide +kernel)), (mem_t2 212 (by decide +kernel)), ⟨by decide +kernel, by decide +kernel, by decide +kernel⟩, by decide⟩
theorem cvX2_25 : CV RX2 25 yX4_copyFrom cX4_copyFrom 3 none 1 := ⟨(mem_t2 213 (by decide +kernel)), (mem_t2 214 (by decide +kernel)), (mem_t2 215 (by decide +kernel)), (mem_t1 4 (by decide +kernel)), (mem_t2 216 (by decide +kernel)), ⟨by decide +kernel, by decide +kernel, by decide +kernel⟩, by decide⟩
theorem uwsX6 : ∀ w ∈ u_ws RX6 TX6 7, w ∈ gtbl := fun w h => List.mem_filter.mpr ⟨(show ∀ w ∈ u_ws RX6 TX6 7, w ∈ lw_tbl by decide +kernel) w h, (show ∀ w ∈ u_ws RX6 TX6 7, goodWord w = true by decide +kernel) w h⟩
theorem fiX6_28 : FI RX6 28 6 1 0 := ⟨RX6, TX6, 7, rfl, by decide, (mem_t2 22 (by decide +kernel)), uwsX6, rfl⟩
theorem fiX6_11 : FI RX6 11 6 0 1 := ⟨RX6, TX6, 7, rfl, by decide, (mem_t2 21 (by decide +kernel)), uwsX6, rfl⟩
theorem fpX6_28 : FP RX6 28 6 1 0 false .int := ⟨RX6, TX6, 7, tyX6, rfl, by decide, (mem_t2 22 (by decide +kernel)), uwsX6, rfl, tyX6_ok, nmX6, rfl, rfl⟩
theorem fpX6_32 : FP RX6 32 6 2 0 false .boolean := ⟨RX6, TX6, 7, tyX6, rfl, by decide, (mem_t2 23 (by decide +kernel)), uwsX6, rfl, tyX6_ok, nmX6, rfl, rfl⟩
theorem cvX6_36 : CV RX6 36 yX6_emit cX6_emit 2 none 1 := ⟨(mem_t2 17 (by decide +kernel)), (mem_t2 19 (by decide +kernel)), (mem_g 1 (by decide +kernel) (by decide +kernel)), (mem_t1 10 (by decide +kernel)), (mem_t2 20 (by decide +kernel)), ⟨by decide +kernel, by decide +kernel, by decide +kernel⟩, by decide⟩
theorem fiX6_43 : FI RX6 43 6 6 0 := ⟨RX6, TX6, 7, rfl, by decide, (mem_t2 29 (by decide +kernel)), uwsX6, rfl⟩
theorem fiX6_21 : FI RX6 21 6 5 1 := ⟨RX6, TX6, 7, rfl, by decide, (mem_t2 28 (by decide +kernel)), uwsX6, rfl⟩
theorem fiX6_40 : FI RX6 40 8 1 0 := ⟨RX8, TX8, 2, rfl, by decide, (mem_t1 41 (by decide +kernel)), uwsX8, rfl⟩
theorem fiX6_50 : FI RX6 50 8 0 1 := ⟨RX8, TX8, 2, rfl, by decide, (mem_t1 37 (by decide +kernel)), uwsX8, rfl⟩
theorem fpX6_43 : FP RX6 43 6 6 0 false .int := ⟨RX6, TX6, 7, tyX6, rfl, by decide, (mem_t2 29 (by decide +kernel)), uwsX6, rfl, tyX6_ok, nmX6, rfl, rfl⟩
theorem cvX6_46 : CV RX6 46 yX6_readExpression cX6_readExpression 3 (some .boolean) 1 := ⟨(mem_t2 152 (by decide +kernel)), (mem_t2 154 (by decide +kernel)), (mem_g 5 (by decide +kernel) (by decide +kernel)), (mem_t1 10 (by decide +kernel)), (mem_t2 155 (by decide +kernel)), ⟨by decide +kernel, by decide +kernel, by decide +kernel⟩, by decide⟩
theorem cvX6_56 : CV RX6 56 yX6_peek cX6_peek 1 (some .int) 0 := ⟨(mem_t2 168 (by decide +kernel)), (mem_t2 170 (by decide +kernel)), (mem_g 9 (by decide +kernel) (by decide +kernel)), (mem_t1 10 (by decide +kernel)), (mem_t2 171 (by decide +kernel)), ⟨by decide +kernel, by decide +kernel, by decide +kernel⟩, by decide⟩
theorem csX6_73 : CS RX6 73 yX6_thingOf cX6_thingOf 1 (some .int) 1 := ⟨(mem_t2 180 (by decide +kernel)), (mem_t2 181 (by decide +kernel)), (mem_t1 10 (by decide +kernel)), (mem_t2 182 (by decide +kernel)), ⟨by decide +kernel, by decide +kernel, by decide +kernel⟩, by decide⟩
theorem fiX6_32 : FI RX6 32 6 2 0 := ⟨RX6, TX6, 7, rfl, by decide, (mem_t2 23 (by decide +kernel)), uwsX6, rfl⟩
theorem cvX6_69 : CV RX6 69 yX6_readThing cX6_readThing 5 (some .boolean) 0 := ⟨(mem_t2 176 (by decide +kernel)), (mem_t2 178 (by decide +kernel)), (mem_g 11 (by decide +kernel) (by decide +kernel)), (mem_t1 10 (by decide +kernel)), (mem_t2 179 (by decide +kernel)), ⟨by decide +kernel, by decide +kernel, by decide +kernel⟩, by decide⟩
theorem cvX6_66 : CV RX6 66 yX6_readInner cX6_readInner 2 (some .boolean) 1 := ⟨(mem_t2 172 (by decide +kernel)), (mem_t2 174 (by decide +kernel)), (mem_g 10 (by decide +kernel) (by decide +kernel)), (mem_t1 10 (by decide +kernel)), (mem_t2 175 (by decide +kernel)), ⟨by decide +kernel, by decide +kernel, by decide +kernel⟩, by decide⟩
theorem cvX6_63 : CV RX6 63 yX6_readSigned cX6_readSigned 4 (some .boolean) 1 := ⟨(mem_t2 164 (by decide +kernel)), (mem_t2 166 (by decide +kernel)), (mem_g 8 (by decide +kernel) (by decide +kernel)), (mem_t1 10 (by decide +kernel)), (mem_t2 167 (by decide +kernel)), ⟨by decide +kernel, by decide +kernel, by decide +kernel⟩, by decide⟩
theorem cvX6_60 : CV RX6 60 yX6_readProduct cX6_readProduct 5 (some .boolean) 1 := ⟨(mem_t2 160 (by decide +kernel)), (mem_t2 162 (by decide +kernel)), (mem_g 7 (by decide +kernel) (by decide +kernel)), (mem_t1 10 (by decide +kernel)), (mem_t2 163 (by decide +kernel)), ⟨by decide +kernel, by decide +kernel, by decide +kernel⟩, by decide⟩
theorem cvX6_53 : CV RX6 53 yX6_readSum cX6_readSum 5 (some .boolean) 1 := ⟨(mem_t2 156 (by decide +kernel)), (mem_t2 158 (by decide +kernel)), (mem_g 6 (by decide +kernel) (by decide +kernel)), (mem_t1 10 (by decide +kernel)), (mem_t2 159 (by decide +kernel)), ⟨by decide +kernel, by decide +kernel, by decide +kernel⟩, by decide⟩
theorem cvX6_25 : CV RX6 25 yX6_takeStandard cX6_takeStandard 1 none 0 := ⟨(mem_t2 13 (by decide +kernel)), (mem_t2 15 (by decide +kernel)), (mem_g 0 (by decide +kernel) (by decide +kernel)), (mem_t1 10 (by decide +kernel)), (mem_t2 16 (by decide +kernel)), ⟨by decide +kernel, by decide +kernel, by decide +kernel⟩, by decide⟩
theorem fiX6_18 : FI RX6 18 6 4 1 := ⟨RX6, TX6, 7, rfl, by decide, (mem_t2 27 (by decide +kernel)), uwsX6, rfl⟩
theorem mmX6_81 : MM RX6 81 Lib.Math.min.name Lib.Math.min.code 2 := ⟨(mem_t3 8 (by decide +kernel)), (mem_t2 192 (by decide +kernel)), (mem_t1 12 (by decide +kernel)), (mem_t2 193 (by decide +kernel))⟩
theorem mmX6_87 : MM RX6 87 Lib.Math.max.name Lib.Math.max.code 2 := ⟨(mem_t3 9 (by decide +kernel)), (mem_t2 195 (by decide +kernel)), (mem_t1 12 (by decide +kernel)), (mem_t2 196 (by decide +kernel))⟩
theorem csX6_77 : CS RX6 77 yX6_joined cX6_joined 3 (some .int) 3 := ⟨(mem_t3 5 (by decide +kernel)), (mem_t3 6 (by decide +kernel)), (mem_t1 10 (by decide +kernel)), (mem_t3 7 (by decide +kernel)), ⟨by decide +kernel, by decide +kernel, by decide +kernel⟩, by decide⟩
theorem fiX6_15 : FI RX6 15 6 3 1 := ⟨RX6, TX6, 7, rfl, by decide, (mem_t2 25 (by decide +kernel)), uwsX6, rfl⟩
theorem uwsX3 : ∀ w ∈ u_ws RX3 TX3 9, w ∈ gtbl := fun w h => List.mem_filter.mpr ⟨(show ∀ w ∈ u_ws RX3 TX3 9, w ∈ lw_tbl by decide +kernel) w h, (show ∀ w ∈ u_ws RX3 TX3 9, goodWord w = true by decide +kernel) w h⟩
theorem fiX3_15 : FI RX3 15 3 2 1 := ⟨RX3, TX3, 9, rfl, by decide, (mem_t1 161 (by decide +kernel)), uwsX3, rfl⟩
theorem ad_108 : (108 : Nat) ≠ 0 ∧ 108 ≤ 205 ∧ (sh 108).1 = 3 + 10 := by decide +kernel
theorem fn_108_2 {R : Nat → Nat → Nat} (h : Ph R) : R 108 2 = 110 := h.1 (108, 2, 110) (List.mem_of_getElem? (i := 102) (by decide +kernel))
theorem ln_110 : ln 110 = 6 := by decide +kernel
theorem ad_110 : (110 : Nat) ≠ 0 ∧ 110 ≤ 205 ∧ (sh 110).1 = 1 := by decide +kernel
theorem fiX3_37 : FI RX3 37 3 0 0 := ⟨RX3, TX3, 9, rfl, by decide, (mem_t1 158 (by decide +kernel)), uwsX3, rfl⟩
theorem fiX3_77 : FI RX3 77 4 4 1 := ⟨RX4, TX4, 9, rfl, by decide, (mem_t1 82 (by decide +kernel)), uwsX4, rfl⟩
theorem cvX3_69 : CV RX3 69 yX3_nextAhead cX3_nextAhead 3 (some .int) 1 := ⟨(mem_t2 233 (by decide +kernel)), (mem_t2 234 (by decide +kernel)), (mem_t2 235 (by decide +kernel)), (mem_t1 7 (by decide +kernel)), (mem_t2 236 (by decide +kernel)), ⟨by decide +kernel, by decide +kernel, by decide +kernel⟩, by decide⟩
theorem cvX3_80 : CV RX3 80 yX3_nextBehind cX3_nextBehind 3 (some .int) 1 := ⟨(mem_t2 237 (by decide +kernel)), (mem_t2 239 (by decide +kernel)), (mem_g 15 (by decide +kernel) (by decide +kernel)), (mem_t1 7 (by decide +kernel)), (mem_t3 0 (by decide +kernel)), ⟨by decide +kernel, by decide +kernel, by decide +kernel⟩, by decide⟩
theorem fiX3_83 : FI RX3 83 6 3 1 := ⟨RX6, TX6, 7, rfl, by decide, (mem_t2 26 (by decide +kernel)), uwsX6, rfl⟩
theorem fiX3_86 : FI RX3 86 4 1 1 := ⟨RX4, TX4, 9, rfl, by decide, (mem_t1 74 (by decide +kernel)), uwsX4, rfl⟩
theorem fiX3_89 : FI RX3 89 4 2 1 := ⟨RX4, TX4, 9, rfl, by decide, (mem_t1 77 (by decide +kernel)), uwsX4, rfl⟩
theorem fiX3_9 : FI RX3 9 3 1 1 := ⟨RX3, TX3, 9, rfl, by decide, (mem_t1 159 (by decide +kernel)), uwsX3, rfl⟩
theorem fn_108_1 {R : Nat → Nat → Nat} (h : Ph R) : R 108 1 = 109 := h.1 (108, 1, 109) (List.mem_of_getElem? (i := 101) (by decide +kernel))
theorem ln_109 : ln 109 = 6 := by decide +kernel
theorem ad_109 : (109 : Nat) ≠ 0 ∧ 109 ≤ 205 ∧ (sh 109).1 = 0 := by decide +kernel
theorem fiX3_92 : FI RX3 92 4 7 0 := ⟨RX4, TX4, 9, rfl, by decide, (mem_t1 91 (by decide +kernel)), uwsX4, rfl⟩
theorem fiX3_19 : FI RX3 19 3 3 1 := ⟨RX3, TX3, 9, rfl, by decide, (mem_t1 163 (by decide +kernel)), uwsX3, rfl⟩
theorem fn_108_3 {R : Nat → Nat → Nat} (h : Ph R) : R 108 3 = 111 := h.1 (108, 3, 111) (List.mem_of_getElem? (i := 103) (by decide +kernel))
theorem cvX3_95 : CV RX3 95 yX6_feet cX6_feet 4 (some .int) 0 := ⟨(mem_t3 1 (by decide +kernel)), (mem_t3 2 (by decide +kernel)), (mem_t3 3 (by decide +kernel)), (mem_t1 10 (by decide +kernel)), (mem_t3 4 (by decide +kernel)), ⟨by decide +kernel, by decide +kernel, by decide +kernel⟩, by decide⟩
theorem ln_111 : ln 111 = 6 := by decide +kernel
theorem ad_111 : (111 : Nat) ≠ 0 ∧ 111 ≤ 205 ∧ (sh 111).1 = 0 := by decide +kernel
theorem fiX3_31 : FI RX3 31 4 0 0 := ⟨RX4, TX4, 9, rfl, by decide, (mem_t1 70 (by decide +kernel)), uwsX4, rfl⟩
theorem fpX3_37 : FP RX3 37 3 0 0 false .int := ⟨RX3, TX3, 9, tyX3, rfl, by decide, (mem_t1 158 (by decide +kernel)), uwsX3, rfl, tyX3_ok, nmX3, rfl, rfl⟩
theorem fpX3_40 : FP RX3 40 3 4 0 false .int := ⟨RX3, TX3, 9, tyX3, rfl, by decide, (mem_t1 164 (by decide +kernel)), uwsX3, rfl, tyX3_ok, nmX3, rfl, rfl⟩
theorem fpX3_43 : FP RX3 43 3 5 0 false .int := ⟨RX3, TX3, 9, tyX3, rfl, by decide, (mem_t1 166 (by decide +kernel)), uwsX3, rfl, tyX3_ok, nmX3, rfl, rfl⟩
theorem fiX3_49 : FI RX3 49 6 2 0 := ⟨RX6, TX6, 7, rfl, by decide, (mem_t2 24 (by decide +kernel)), uwsX6, rfl⟩
theorem cvX3_55 : CV RX3 55 yX3_weigh cX3_weigh 8 none 3 := ⟨(mem_t2 229 (by decide +kernel)), (mem_t2 231 (by decide +kernel)), (mem_g 14 (by decide +kernel) (by decide +kernel)), (mem_t1 7 (by decide +kernel)), (mem_t2 232 (by decide +kernel)), ⟨by decide +kernel, by decide +kernel, by decide +kernel⟩, by decide⟩
theorem fiX3_46 : FI RX3 46 4 5 0 := ⟨RX4, TX4, 9, rfl, by decide, (mem_t1 85 (by decide +kernel)), uwsX4, rfl⟩
theorem fiX3_40 : FI RX3 40 3 4 0 := ⟨RX3, TX3, 9, rfl, by decide, (mem_t1 164 (by decide +kernel)), uwsX3, rfl⟩
theorem fiX3_43 : FI RX3 43 3 5 0 := ⟨RX3, TX3, 9, rfl, by decide, (mem_t1 166 (by decide +kernel)), uwsX3, rfl⟩
theorem fiX3_22 : FI RX3 22 3 6 1 := ⟨RX3, TX3, 9, rfl, by decide, (mem_t1 168 (by decide +kernel)), uwsX3, rfl⟩
theorem fn_108_6 {R : Nat → Nat → Nat} (h : Ph R) : R 108 6 = 112 := h.1 (108, 6, 112) (List.mem_of_getElem? (i := 104) (by decide +kernel))
theorem ln_112 : ln 112 = 3 := by decide +kernel
theorem ad_112 : (112 : Nat) ≠ 0 ∧ 112 ≤ 205 ∧ (sh 112).1 = 0 := by decide +kernel
theorem fiX3_25 : FI RX3 25 3 7 1 := ⟨RX3, TX3, 9, rfl, by decide, (mem_t1 170 (by decide +kernel)), uwsX3, rfl⟩
theorem fn_108_7 {R : Nat → Nat → Nat} (h : Ph R) : R 108 7 = 113 := h.1 (108, 7, 113) (List.mem_of_getElem? (i := 105) (by decide +kernel))
theorem ln_113 : ln 113 = 3 := by decide +kernel
theorem ad_113 : (113 : Nat) ≠ 0 ∧ 113 ≤ 205 ∧ (sh 113).1 = 0 := by decide +kernel
theorem fiX3_28 : FI RX3 28 3 8 1 := ⟨RX3, TX3, 9, rfl, by decide, (mem_t1 172 (by decide +kernel)), uwsX3, rfl⟩
theorem fn_108_8 {R : Nat → Nat → Nat} (h : Ph R) : R 108 8 = 114 := h.1 (108, 8, 114) (List.mem_of_getElem? (i := 106) (by decide +kernel))
theorem ln_114 : ln 114 = 3 := by decide +kernel
theorem ad_114 : (114 : Nat) ≠ 0 ∧ 114 ≤ 205 ∧ (sh 114).1 = 0 := by decide +kernel
theorem cvX3_73 : CV RX3 73 yX3_touch cX3_touch 5 none 4 := ⟨(mem_t3 14 (by decide +kernel)), (mem_t3 16 (by decide +kernel)), (mem_g 16 (by decide +kernel) (by decide +kernel)), (mem_t1 7 (by decide +kernel)), (mem_t3 17 (by decide +kernel)), ⟨by decide +kernel, by decide +kernel, by decide +kernel⟩, by decide⟩
theorem cvX3_59 : CV RX3 59 yX3_begin cX3_begin 4 none 2 := ⟨(mem_t2 225 (by decide +kernel)), (mem_t2 226 (by decide +kernel)), (mem_t2 227 (by decide +kernel)), (mem_t1 7 (by decide +kernel)), (mem_t2 228 (by decide +kernel)), ⟨by decide +kernel, by decide +kernel, by decide +kernel⟩, by decide⟩
theorem fiX3_63 : FI RX3 63 4 6 0 := ⟨RX4, TX4, 9, rfl, by decide, (mem_t1 88 (by decide +kernel)), uwsX4, rfl⟩
theorem cvX3_66 : CV RX3 66 yX3_pull cX3_pull 6 none 3 := ⟨(mem_t3 10 (by decide +kernel)), (mem_t3 11 (by decide +kernel)), (mem_t3 12 (by decide +kernel)), (mem_t1 7 (by decide +kernel)), (mem_t3 13 (by decide +kernel)), ⟨by decide +kernel, by decide +kernel, by decide +kernel⟩, by decide⟩
theorem fiX3_111 : FI RX3 111 4 8 0 := ⟨RX4, TX4, 9, rfl, by decide, (mem_t1 94 (by decide +kernel)), uwsX4, rfl⟩
theorem mmX3_98 : MM RX3 98 Lib.Math.min.name Lib.Math.min.code 2 := ⟨(mem_t3 22 (by decide +kernel)), (mem_t2 192 (by decide +kernel)), (mem_t1 12 (by decide +kernel)), (mem_t2 193 (by decide +kernel))⟩
theorem fpX3_111 : FP RX3 111 4 8 0 false .int := ⟨RX4, TX4, 9, tyX4, rfl, by decide, (mem_t1 94 (by decide +kernel)), uwsX4, rfl, tyX4_ok, nmX4, rfl, rfl⟩
theorem fpX3_92 : FP RX3 92 4 7 0 false .int := ⟨RX4, TX4, 9, tyX4, rfl, by decide, (mem_t1 91 (by decide +kernel)), uwsX4, rfl, tyX4_ok, nmX4, rfl, rfl⟩
theorem cvX3_107 : CV RX3 107 yX4_changePlaces cX4_changePlaces 4 none 2 := ⟨(mem_t3 24 (by decide +kernel)), (mem_t3 25 (by decide +kernel)), (mem_t3 26 (by decide +kernel)), (mem_t1 4 (by decide +kernel)), (mem_t3 27 (by decide +kernel)), ⟨by decide +kernel, by decide +kernel, by decide +kernel⟩, by decide⟩
theorem mmX3_104 : MM RX3 104 Lib.Math.max.name Lib.Math.max.code 2 := ⟨(mem_t3 23 (by decide +kernel)), (mem_t2 195 (by decide +kernel)), (mem_t1 12 (by decide +kernel)), (mem_t2 196 (by decide +kernel))⟩
theorem cvX3_114 : CV RX3 114 yX3_pairOf cX3_pairOf 4 (some .int) 2 := ⟨(mem_t3 173 (by decide +kernel)), (mem_t3 175 (by decide +kernel)), (mem_g 21 (by decide +kernel) (by decide +kernel)), (mem_t1 7 (by decide +kernel)), (mem_t3 176 (by decide +kernel)), ⟨by decide +kernel, by decide +kernel, by decide +kernel⟩, by decide⟩
theorem cvX3_118 : CV RX3 118 yX3_bitsOf cX3_bitsOf 4 (some .int) 1 := ⟨(mem_t3 140 (by decide +kernel)), (mem_t3 142 (by decide +kernel)), (mem_g 20 (by decide +kernel) (by decide +kernel)), (mem_t1 7 (by decide +kernel)), (mem_t3 143 (by decide +kernel)), ⟨by decide +kernel, by decide +kernel, by decide +kernel⟩, by decide⟩
theorem kcJI_265 : Cond.constant RJI 265 1431655765 ∈ gtbl := (mem_t3 237 (by decide +kernel))
theorem kcJI_266 : Cond.constant RJI 266 858993459 ∈ gtbl := (mem_t3 238 (by decide +kernel))
theorem kcJI_267 : Cond.constant RJI 267 252645135 ∈ gtbl := (mem_t3 239 (by decide +kernel))
theorem csX1_33 : CS RX1 33 yX1_isFull cX1_isFull 4 (some .boolean) 3 := ⟨(mem_t3 215 (by decide +kernel)), (mem_t3 216 (by decide +kernel)), (mem_t1 8 (by decide +kernel)), (mem_t3 217 (by decide +kernel)), ⟨by decide +kernel, by decide +kernel, by decide +kernel⟩, by decide⟩
theorem uwsX1 : ∀ w ∈ u_ws RX1 TX1 10, w ∈ gtbl := fun w h => List.mem_filter.mpr ⟨(show ∀ w ∈ u_ws RX1 TX1 10, w ∈ lw_tbl by decide +kernel) w h, (show ∀ w ∈ u_ws RX1 TX1 10, goodWord w = true by decide +kernel) w h⟩
theorem fiX1_37 : FI RX1 37 1 1 0 := ⟨RX1, TX1, 10, rfl, by decide, (mem_t1 202 (by decide +kernel)), uwsX1, rfl⟩
theorem ad_115 : (115 : Nat) ≠ 0 ∧ 115 ≤ 205 ∧ (sh 115).1 = 1 + 10 := by decide +kernel
theorem fiX1_9 : FI RX1 9 1 0 0 := ⟨RX1, TX1, 10, rfl, by decide, (mem_t1 201 (by decide +kernel)), uwsX1, rfl⟩
theorem fiX1_27 : FI RX1 27 1 8 1 := ⟨RX1, TX1, 10, rfl, by decide, (mem_t1 213 (by decide +kernel)), uwsX1, rfl⟩
theorem fn_115_8 {R : Nat → Nat → Nat} (h : Ph R) : R 115 8 = 139 := h.1 (115, 8, 139) (List.mem_of_getElem? (i := 110) (by decide +kernel))
theorem csX1_81 : CS RX1 81 yX1_nthBit cX1_nthBit 4 (some .int) 2 := ⟨(mem_t3 209 (by decide +kernel)), (mem_t3 210 (by decide +kernel)), (mem_t1 8 (by decide +kernel)), (mem_t3 211 (by decide +kernel)), ⟨by decide +kernel, by decide +kernel, by decide +kernel⟩, by decide⟩
theorem ln_139 : ln 139 = 6 := by decide +kernel
theorem ad_139 : (139 : Nat) ≠ 0 ∧ 139 ≤ 205 ∧ (sh 139).1 = 0 := by decide +kernel
theorem fpX1_46 : FP RX1 46 1 2 0 false .int := ⟨RX1, TX1, 10, tyX1, rfl, by decide, (mem_t1 203 (by decide +kernel)), uwsX1, rfl, tyX1_ok, nmX1, rfl, rfl⟩
theorem fpX1_49 : FP RX1 49 1 3 0 false .int := ⟨RX1, TX1, 10, tyX1, rfl, by decide, (mem_t1 205 (by decide +kernel)), uwsX1, rfl, tyX1_ok, nmX1, rfl, rfl⟩
theorem fpX1_52 : FP RX1 52 1 4 0 false .int := ⟨RX1, TX1, 10, tyX1, rfl, by decide, (mem_t1 207 (by decide +kernel)), uwsX1, rfl, tyX1_ok, nmX1, rfl, rfl⟩
theorem cvX1_55 : CV RX1 55 yX1_unpack cX1_unpack 7 none 1 := ⟨(mem_t3 205 (by decide +kernel)), (mem_t3 207 (by decide +kernel)), (mem_g 24 (by decide +kernel) (by decide +kernel)), (mem_t1 8 (by decide +kernel)), (mem_t3 208 (by decide +kernel)), ⟨by decide +kernel, by decide +kernel, by decide +kernel⟩, by decide⟩
theorem fiX1_46 : FI RX1 46 1 2 0 := ⟨RX1, TX1, 10, rfl, by decide, (mem_t1 203 (by decide +kernel)), uwsX1, rfl⟩
theorem csX1_59 : CS RX1 59 yX1_isLawful cX1_isLawful 4 (some .boolean) 2 := ⟨(mem_t3 212 (by decide +kernel)), (mem_t3 213 (by decide +kernel)), (mem_t1 8 (by decide +kernel)), (mem_t3 214 (by decide +kernel)), ⟨by decide +kernel, by decide +kernel, by decide +kernel⟩, by decide⟩
theorem csX1_63 : CS RX1 63 yX1_pairsOf cX1_pairsOf 4 (some .int) 2 := ⟨(mem_t3 218 (by decide +kernel)), (mem_t3 219 (by decide +kernel)), (mem_t1 8 (by decide +kernel)), (mem_t3 220 (by decide +kernel)), ⟨by decide +kernel, by decide +kernel, by decide +kernel⟩, by decide⟩
theorem fiX1_49 : FI RX1 49 1 3 0 := ⟨RX1, TX1, 10, rfl, by decide, (mem_t1 205 (by decide +kernel)), uwsX1, rfl⟩
theorem fiX1_52 : FI RX1 52 1 4 0 := ⟨RX1, TX1, 10, rfl, by decide, (mem_t1 207 (by decide +kernel)), uwsX1, rfl⟩
theorem fiX1_17 : FI RX1 17 1 5 1 := ⟨RX1, TX1, 10, rfl, by decide, (mem_t1 209 (by decide +kernel)), uwsX1, rfl⟩
theorem fn_115_5 {R : Nat → Nat → Nat} (h : Ph R) : R 115 5 = 116 := h.1 (115, 5, 116) (List.mem_of_getElem? (i := 107) (by decide +kernel))
theorem ln_116 : ln 116 = 20 := by decide +kernel
theorem ad_116 : (116 : Nat) ≠ 0 ∧ 116 ≤ 205 ∧ (sh 116).1 = 4 := by decide +kernel
theorem mmX1_67 : MM RX1 67 Lib.Math.max.name Lib.Math.max.code 2 := ⟨(mem_t3 221 (by decide +kernel)), (mem_t2 195 (by decide +kernel)), (mem_t1 12 (by decide +kernel)), (mem_t2 196 (by decide +kernel))⟩
theorem csX1_84 : CS RX1 84 yBC cBC 1 (some .int) 1 := ⟨(mem_t3 234 (by decide +kernel)), (mem_t3 235 (by decide +kernel)), (mem_t1 21 (by decide +kernel)), (mem_t3 236 (by decide +kernel)), ⟨by decide +kernel, by decide +kernel, by decide +kernel⟩, by decide⟩
theorem fiX1_30 : FI RX1 30 1 9 1 := ⟨RX1, TX1, 10, rfl, by decide, (mem_t1 214 (by decide +kernel)), uwsX1, rfl⟩
theorem fn_115_9 {R : Nat → Nat → Nat} (h : Ph R) : R 115 9 = 140 := h.1 (115, 9, 140) (List.mem_of_getElem? (i := 111) (by decide +kernel))
theorem ad_140 : (140 : Nat) ≠ 0 ∧ 140 ≤ 205 ∧ (sh 140).1 = 0 := by decide +kernel
theorem cvX1_77 : CV RX1 77 yX1_numberOf cX1_numberOf 6 (some .int) 1 := ⟨(mem_t3 230 (by decide +kernel)), (mem_t3 232 (by decide +kernel)), (mem_g 27 (by decide +kernel) (by decide +kernel)), (mem_t1 8 (by decide +kernel)), (mem_t3 233 (by decide +kernel)), ⟨by decide +kernel, by decide +kernel, by decide +kernel⟩, by decide⟩
theorem fiX1_20 : FI RX1 20 1 6 1 := ⟨RX1, TX1, 10, rfl, by decide, (mem_t1 210 (by decide +kernel)), uwsX1, rfl⟩
theorem fn_115_6 {R : Nat → Nat → Nat} (h : Ph R) : R 115 6 = 137 := h.1 (115, 6, 137) (List.mem_of_getElem? (i := 108) (by decide +kernel))
theorem ln_137 : ln 137 = 720 := by decide +kernel
theorem ad_137 : (137 : Nat) ≠ 0 ∧ 137 ≤ 205 ∧ (sh 137).1 = 0 := by decide +kernel
theorem ln_140 : ln 140 = 6 := by decide +kernel
theorem cvX1_73 : CV RX1 73 yX1_spreadFrom cX1_spreadFrom 5 (some .int) 1 := ⟨(mem_t3 226 (by decide +kernel)), (mem_t3 228 (by decide +kernel)), (mem_g 26 (by decide +kernel) (by decide +kernel)), (mem_t1 8 (by decide +kernel)), (mem_t3 229 (by decide +kernel)), ⟨by decide +kernel, by decide +kernel, by decide +kernel⟩, by decide⟩
theorem fpX1_9 : FP RX1 9 1 0 0 false .int := ⟨RX1, TX1, 10, tyX1, rfl, by decide, (mem_t1 201 (by decide +kernel)), uwsX1, rfl, tyX1_ok, nmX1, rfl, rfl⟩
theorem fpX1_37 : FP RX1 37 1 1 0 false .int := ⟨RX1, TX1, 10, tyX1, rfl, by decide, (mem_t1 202 (by decide +kernel)), uwsX1, rfl, tyX1_ok, nmX1, rfl, rfl⟩
theorem cvX1_40 : CV RX1 40 yX1_findSets cX1_findSets 3 none 0 := ⟨(mem_t3 201 (by decide +kernel)), (mem_t3 203 (by decide +kernel)), (mem_g 23 (by decide +kernel) (by decide +kernel)), (mem_t1 8 (by decide +kernel)), (mem_t3 204 (by decide +kernel)), ⟨by decide +kernel, by decide +kernel, by decide +kernel⟩, by decide⟩
theorem cvX1_43 : CV RX1 43 yX1_findDays cX1_findDays 4 none 0 := ⟨(mem_t3 222 (by decide +kernel)), (mem_t3 224 (by decide +kernel)), (mem_g 25 (by decide +kernel) (by decide +kernel)), (mem_t1 8 (by decide +kernel)), (mem_t3 225 (by decide +kernel)), ⟨by decide +kernel, by decide +kernel, by decide +kernel⟩, by decide⟩
theorem fiX1_24 : FI RX1 24 1 7 1 := ⟨RX1, TX1, 10, rfl, by decide, (mem_t1 211 (by decide +kernel)), uwsX1, rfl⟩
theorem fn_115_7 {R : Nat → Nat → Nat} (h : Ph R) : R 115 7 = 138 := h.1 (115, 7, 138) (List.mem_of_getElem? (i := 109) (by decide +kernel))
theorem ln_138 : ln 138 = 6 := by decide +kernel
theorem ad_138 : (138 : Nat) ≠ 0 ∧ 138 ≤ 205 ∧ (sh 138).1 = 0 := by decide +kernel
theorem uwsX9 : ∀ w ∈ u_ws RX9 TX9 19, w ∈ gtbl := fun w h => List.mem_filter.mpr ⟨(show ∀ w ∈ u_ws RX9 TX9 19, w ∈ lw_tbl by decide +kernel) w h, (show ∀ w ∈ u_ws RX9 TX9 19, goodWord w = true by decide +kernel) w h⟩
theorem fiX9_10 : FI RX9 10 9 0 1 := ⟨RX9, TX9, 19, rfl, by decide, (mem_t2 45 (by decide +kernel)), uwsX9, rfl⟩
theorem ad_1 : (1 : Nat) ≠ 0 ∧ 1 ≤ 205 ∧ (sh 1).1 = 9 + 10 := by decide +kernel
theorem fn_1_0 {R : Nat → Nat → Nat} (h : Ph R) : R 1 0 = 2 := h.1 (1, 0, 2) (List.mem_of_getElem? (i := 0) (by decide +kernel))
theorem fiX9_107 : FI RX9 107 8 1 0 := ⟨RX8, TX8, 2, rfl, by decide, (mem_t1 40 (by decide +kernel)), uwsX8, rfl⟩
theorem cvX9_111 : CV RX9 111 yX8_add cX8_add 2 none 1 := ⟨(mem_t2 107 (by decide +kernel)), (mem_t2 108 (by decide +kernel)), (mem_t2 109 (by decide +kernel)), (mem_t1 2 (by decide +kernel)), (mem_t2 110 (by decide +kernel)), ⟨by decide +kernel, by decide +kernel, by decide +kernel⟩, by decide⟩
theorem fpX9_107 : FP RX9 107 8 1 0 false .int := ⟨RX8, TX8, 2, tyX8, rfl, by decide, (mem_t1 40 (by decide +kernel)), uwsX8, rfl, tyX8_ok, nmX8, rfl, rfl⟩
theorem cvX9_119 : CV RX9 119 yX8_digitAt cX8_digitAt 3 (some .int) 1 := ⟨(mem_t2 127 (by decide +kernel)), (mem_t2 128 (by decide +kernel)), (mem_t2 129 (by decide +kernel)), (mem_t1 2 (by decide +kernel)), (mem_t2 130 (by decide +kernel)), ⟨by decide +kernel, by decide +kernel, by decide +kernel⟩, by decide⟩
theorem cvX9_420 : CV RX9 420 yX8_signAt cX8_signAt 2 (some .int) 1 := ⟨(mem_t2 135 (by decide +kernel)), (mem_t2 132 (by decide +kernel)), (mem_t2 133 (by decide +kernel)), (mem_t1 2 (by decide +kernel)), (mem_t2 134 (by decide +kernel)), ⟨by decide +kernel, by decide +kernel, by decide +kernel⟩, by decide⟩
theorem fiX9_26 : FI RX9 26 9 2 1 := ⟨RX9, TX9, 19, rfl, by decide, (mem_t2 47 (by decide +kernel)), uwsX9, rfl⟩
theorem fn_1_2 {R : Nat → Nat → Nat} (h : Ph R) : R 1 2 = 6 := h.1 (1, 2, 6) (List.mem_of_getElem? (i := 2) (by decide +kernel))
theorem fiX9_282 : FI RX9 282 4 0 0 := ⟨RX4, TX4, 9, rfl, by decide, (mem_t1 72 (by decide +kernel)), uwsX4, rfl⟩
theorem ad_6 : (6 : Nat) ≠ 0 ∧ 6 ≤ 205 ∧ (sh 6).1 = 4 + 10 := by decide +kernel
theorem cvX9_417 : CV RX9 417 yX9_fitsLine cX9_fitsLine 3 (some .boolean) 2 := ⟨(mem_t2 123 (by decide +kernel)), (mem_t2 125 (by decide +kernel)), (mem_g 3 (by decide +kernel) (by decide +kernel)), (mem_t1 1 (by decide +kernel)), (mem_t2 126 (by decide +kernel)), ⟨by decide +kernel, by decide +kernel, by decide +kernel⟩, by decide⟩
theorem fiX9_50 : FI RX9 50 9 8 1 := ⟨RX9, TX9, 19, rfl, by decide, (mem_t2 53 (by decide +kernel)), uwsX9, rfl⟩
theorem fn_1_8 {R : Nat → Nat → Nat} (h : Ph R) : R 1 8 = 104 := h.1 (1, 8, 104) (List.mem_of_getElem? (i := 8) (by decide +kernel))
theorem ln_104 : ln 104 = 3 := by decide +kernel
theorem ad_104 : (104 : Nat) ≠ 0 ∧ 104 ≤ 205 ∧ (sh 104).1 = 1 := by decide +kernel
theorem cvX9_115 : CV RX9 115 yX9_boatsFault cX9_boatsFault 3 (some .int) 0 := ⟨(mem_t2 119 (by decide +kernel)), (mem_t2 121 (by decide +kernel)), (mem_g 2 (by decide +kernel) (by decide +kernel)), (mem_t1 1 (by decide +kernel)), (mem_t2 122 (by decide +kernel)), ⟨by decide +kernel, by decide +kernel, by decide +kernel⟩, by decide⟩
theorem fiX9_42 : FI RX9 42 9 6 1 := ⟨RX9, TX9, 19, rfl, by decide, (mem_t2 51 (by decide +kernel)), uwsX9, rfl⟩
theorem fn_1_6 {R : Nat → Nat → Nat} (h : Ph R) : R 1 6 = 26 := h.1 (1, 6, 26) (List.mem_of_getElem? (i := 6) (by decide +kernel))
theorem fpX9_127 : FP RX9 127 2 1 0 false .int := ⟨RX2, TX2, 2, tyX2, rfl, by decide, (mem_t1 126 (by decide +kernel)), uwsX2, rfl, tyX2_ok, nmX2, rfl, rfl⟩
theorem cvX9_128 : CV RX9 128 yX9_forgetKept cX9_forgetKept 2 none 0 := ⟨(mem_t2 140 (by decide +kernel)), (mem_t2 142 (by decide +kernel)), (mem_g 4 (by decide +kernel) (by decide +kernel)), (mem_t1 1 (by decide +kernel)), (mem_t2 143 (by decide +kernel)), ⟨by decide +kernel, by decide +kernel, by decide +kernel⟩, by decide⟩
theorem cvX9_123 : CV RX9 123 yX4_addBoat cX4_addBoat 3 none 2 := ⟨(mem_t2 136 (by decide +kernel)), (mem_t2 137 (by decide +kernel)), (mem_t2 138 (by decide +kernel)), (mem_t1 4 (by decide +kernel)), (mem_t2 139 (by decide +kernel)), ⟨by decide +kernel, by decide +kernel, by decide +kernel⟩, by decide⟩
theorem fiX9_104 : FI RX9 104 9 18 1 := ⟨RX9, TX9, 19, rfl, by decide, (mem_t2 63 (by decide +kernel)), uwsX9, rfl⟩
theorem cvX9_131 : CV RX9 131 yX6_compile cX6_compile 1 (some .int) 0 := ⟨(mem_t2 148 (by decide +kernel)), (mem_t2 149 (by decide +kernel)), (mem_t2 150 (by decide +kernel)), (mem_t1 10 (by decide +kernel)), (mem_t2 151 (by decide +kernel)), ⟨by decide +kernel, by decide +kernel, by decide +kernel⟩, by decide⟩
theorem fiX9_100 : FI RX9 100 9 17 1 := ⟨RX9, TX9, 19, rfl, by decide, (mem_t2 62 (by decide +kernel)), uwsX9, rfl⟩
theorem fpX9_100 : FP RX9 100 9 17 1 false (.object "BumpsRiver$Rule") := ⟨RX9, TX9, 19, tyX9, rfl, by decide, (mem_t2 62 (by decide +kernel)), uwsX9, rfl, tyX9_ok, nmX9, rfl, rfl⟩
theorem fpX9_104 : FP RX9 104 9 18 1 false (.object "BumpsRiver$Rule") := ⟨RX9, TX9, 19, tyX9, rfl, by decide, (mem_t2 63 (by decide +kernel)), uwsX9, rfl, tyX9_ok, nmX9, rfl, rfl⟩
theorem cvX9_171 : CV RX9 171 yX4_takeSheet cX4_takeSheet 8 none 4 := ⟨(mem_t2 187 (by decide +kernel)), (mem_t2 188 (by decide +kernel)), (mem_t2 189 (by decide +kernel)), (mem_t1 4 (by decide +kernel)), (mem_t2 190 (by decide +kernel)), ⟨by decide +kernel, by decide +kernel, by decide +kernel⟩, by decide⟩
theorem cvX9_175 : CV RX9 175 yX4_sumOfPaces cX4_sumOfPaces 3 (some .int) 0 := ⟨(mem_t2 197 (by decide +kernel)), (mem_t2 198 (by decide +kernel)), (mem_t2 199 (by decide +kernel)), (mem_t1 4 (by decide +kernel)), (mem_t2 200 (by decide +kernel)), ⟨by decide +kernel, by decide +kernel, by decide +kernel⟩, by decide⟩
theorem fiX9_64 : FI RX9 64 9 10 1 := ⟨RX9, TX9, 19, rfl, by decide, (mem_t2 55 (by decide +kernel)), uwsX9, rfl⟩
theorem fn_1_10 {R : Nat → Nat → Nat} (h : Ph R) : R 1 10 = 108 := h.1 (1, 10, 108) (List.mem_of_getElem? (i := 10) (by decide +kernel))
theorem cvX9_157 : CV RX9 157 yX3_run cX3_run 4 none 2 := ⟨(mem_t2 221 (by decide +kernel)), (mem_t2 222 (by decide +kernel)), (mem_t2 223 (by decide +kernel)), (mem_t1 7 (by decide +kernel)), (mem_t2 224 (by decide +kernel)), ⟨by decide +kernel, by decide +kernel, by decide +kernel⟩, by decide⟩
theorem cvX9_423 : CV RX9 423 yX3_settle cX3_settle 5 none 1 := ⟨(mem_t3 18 (by decide +kernel)), (mem_t3 19 (by decide +kernel)), (mem_t3 20 (by decide +kernel)), (mem_t1 7 (by decide +kernel)), (mem_t3 21 (by decide +kernel)), ⟨by decide +kernel, by decide +kernel, by decide +kernel⟩, by decide⟩
theorem fiX9_236 : FI RX9 236 3 5 0 := ⟨RX3, TX3, 9, rfl, by decide, (mem_t1 167 (by decide +kernel)), uwsX3, rfl⟩
theorem cvX9_178 : CV RX9 178 yX2_push cX2_push 2 none 1 := ⟨(mem_t2 205 (by decide +kernel)), (mem_t2 206 (by decide +kernel)), (mem_t2 207 (by decide +kernel)), (mem_t1 5 (by decide +kernel)), (mem_t2 208 (by decide +kernel)), ⟨by decide +kernel, by decide +kernel, by decide +kernel⟩, by decide⟩
theorem fiX9_19 : FI RX9 19 9 1 1 := ⟨RX9, TX9, 19, rfl, by decide, (mem_t2 46 (by decide +kernel)), uwsX9, rfl⟩
theorem fn_1_1 {R : Nat → Nat → Nat} (h : Ph R) : R 1 1 = 4 := h.1 (1, 1, 4) (List.mem_of_getElem? (i := 1) (by decide +kernel))
theorem cvX9_182 : CV RX9 182 yX9_passDays cX9_passDays 6 (some .int) 3 := ⟨(mem_t2 217 (by decide +kernel)), (mem_t2 219 (by decide +kernel)), (mem_g 13 (by decide +kernel) (by decide +kernel)), (mem_t1 1 (by decide +kernel)), (mem_t2 220 (by decide +kernel)), ⟨by decide +kernel, by decide +kernel, by decide +kernel⟩, by decide⟩
theorem cvX9_186 : CV RX9 186 yX5_tell cX5_tell 3 none 1 := ⟨(mem_t3 36 (by decide +kernel)), (mem_t3 37 (by decide +kernel)), (mem_t3 38 (by decide +kernel)), (mem_t1 3 (by decide +kernel)), (mem_t3 39 (by decide +kernel)), ⟨by decide +kernel, by decide +kernel, by decide +kernel⟩, by decide⟩
theorem cvX9_154 : CV RX9 154 yX4_boatOn cX4_boatOn 2 (some .int) 1 := ⟨(mem_t3 44 (by decide +kernel)), (mem_t3 45 (by decide +kernel)), (mem_t3 46 (by decide +kernel)), (mem_t1 4 (by decide +kernel)), (mem_t3 47 (by decide +kernel)), ⟨by decide +kernel, by decide +kernel, by decide +kernel⟩, by decide⟩
theorem fiX9_30 : FI RX9 30 9 3 1 := ⟨RX9, TX9, 19, rfl, by decide, (mem_t2 48 (by decide +kernel)), uwsX9, rfl⟩
theorem fn_1_3 {R : Nat → Nat → Nat} (h : Ph R) : R 1 3 = 11 := h.1 (1, 3, 11) (List.mem_of_getElem? (i := 3) (by decide +kernel))
theorem cvX9_190 : CV RX9 190 yX4_copyFrom cX4_copyFrom 3 none 1 := ⟨(mem_t3 52 (by decide +kernel)), (mem_t2 214 (by decide +kernel)), (mem_t2 215 (by decide +kernel)), (mem_t1 4 (by decide +kernel)), (mem_t2 216 (by decide +kernel)), ⟨by decide +kernel, by decide +kernel, by decide +kernel⟩, by decide⟩
theorem ad_11 : (11 : Nat) ≠ 0 ∧ 11 ≤ 205 ∧ (sh 11).1 = 4 + 10 := by decide +kernel
theorem cvX9_193 : CV RX9 193 yX4_moveToFoot cX4_moveToFoot 4 (some .int) 1 := ⟨(mem_t3 53 (by decide +kernel)), (mem_t3 54 (by decide +kernel)), (mem_t3 55 (by decide +kernel)), (mem_t1 4 (by decide +kernel)), (mem_t3 56 (by decide +kernel)), ⟨by decide +kernel, by decide +kernel, by decide +kernel⟩, by decide⟩
theorem cvX9_196 : CV RX9 196 yX9_noted cX9_noted 2 (some .int) 1 := ⟨(mem_t3 57 (by decide +kernel)), (mem_t3 59 (by decide +kernel)), (mem_g 17 (by decide +kernel) (by decide +kernel)), (mem_t1 1 (by decide +kernel)), (mem_t3 60 (by decide +kernel)), ⟨by decide +kernel, by decide +kernel, by decide +kernel⟩, by decide⟩
theorem cvX9_199 : CV RX9 199 yX4_restBoat cX4_restBoat 3 (some .int) 1 := ⟨(mem_t3 65 (by decide +kernel)), (mem_t3 66 (by decide +kernel)), (mem_t3 67 (by decide +kernel)), (mem_t1 4 (by decide +kernel)), (mem_t3 68 (by decide +kernel)), ⟨by decide +kernel, by decide +kernel, by decide +kernel⟩, by decide⟩
theorem cvX9_202 : CV RX9 202 yX4_setPace cX4_setPace 4 (some .int) 2 := ⟨(mem_t3 73 (by decide +kernel)), (mem_t3 74 (by decide +kernel)), (mem_t3 75 (by decide +kernel)), (mem_t1 4 (by decide +kernel)), (mem_t3 76 (by decide +kernel)), ⟨by decide +kernel, by decide +kernel, by decide +kernel⟩, by decide⟩
theorem cvX9_206 : CV RX9 206 yX4_setGap cX4_setGap 3 (some .int) 1 := ⟨(mem_t3 81 (by decide +kernel)), (mem_t3 82 (by decide +kernel)), (mem_t3 83 (by decide +kernel)), (mem_t1 4 (by decide +kernel)), (mem_t3 84 (by decide +kernel)), ⟨by decide +kernel, by decide +kernel, by decide +kernel⟩, by decide⟩
theorem cvX9_209 : CV RX9 209 yX4_setStrokes cX4_setStrokes 3 (some .int) 1 := ⟨(mem_t3 89 (by decide +kernel)), (mem_t3 90 (by decide +kernel)), (mem_t3 91 (by decide +kernel)), (mem_t1 4 (by decide +kernel)), (mem_t3 92 (by decide +kernel)), ⟨by decide +kernel, by decide +kernel, by decide +kernel⟩, by decide⟩
theorem fiX9_218 : FI RX9 218 8 0 1 := ⟨RX8, TX8, 2, rfl, by decide, (mem_t1 38 (by decide +kernel)), uwsX8, rfl⟩
theorem csX9_221 : CS RX9 221 yX9_actLength cX9_actLength 1 (some .int) 1 := ⟨(mem_t3 101 (by decide +kernel)), (mem_t3 102 (by decide +kernel)), (mem_t1 1 (by decide +kernel)), (mem_t3 103 (by decide +kernel)), ⟨by decide +kernel, by decide +kernel, by decide +kernel⟩, by decide⟩
theorem cvX9_212 : CV RX9 212 yX9_weekFault cX9_weekFault 6 (some .int) 0 := ⟨(mem_t3 97 (by decide +kernel)), (mem_t3 99 (by decide +kernel)), (mem_g 18 (by decide +kernel) (by decide +kernel)), (mem_t1 1 (by decide +kernel)), (mem_t3 100 (by decide +kernel)), ⟨by decide +kernel, by decide +kernel, by decide +kernel⟩, by decide⟩
theorem cvX9_215 : CV RX9 215 yX9_doAct cX9_doAct 4 (some .boolean) 1 := ⟨(mem_t3 104 (by decide +kernel)), (mem_t3 106 (by decide +kernel)), (mem_g 19 (by decide +kernel) (by decide +kernel)), (mem_t1 1 (by decide +kernel)), (mem_t3 107 (by decide +kernel)), ⟨by decide +kernel, by decide +kernel, by decide +kernel⟩, by decide⟩
theorem fiX9_224 : FI RX9 224 4 7 0 := ⟨RX4, TX4, 9, rfl, by decide, (mem_t1 92 (by decide +kernel)), uwsX4, rfl⟩
theorem cvX9_227 : CV RX9 227 yX5_tellBoth cX5_tellBoth 5 none 2 := ⟨(mem_t3 108 (by decide +kernel)), (mem_t3 109 (by decide +kernel)), (mem_t3 110 (by decide +kernel)), (mem_t1 3 (by decide +kernel)), (mem_t3 111 (by decide +kernel)), ⟨by decide +kernel, by decide +kernel, by decide +kernel⟩, by decide⟩
theorem cvX9_231 : CV RX9 231 yX2_pop cX2_pop 2 (some .boolean) 1 := ⟨(mem_t3 116 (by decide +kernel)), (mem_t3 117 (by decide +kernel)), (mem_t3 118 (by decide +kernel)), (mem_t1 5 (by decide +kernel)), (mem_t3 119 (by decide +kernel)), ⟨by decide +kernel, by decide +kernel, by decide +kernel⟩, by decide⟩
theorem fiX9_127 : FI RX9 127 2 1 0 := ⟨RX2, TX2, 2, rfl, by decide, (mem_t1 126 (by decide +kernel)), uwsX2, rfl⟩
theorem fpX9_235 : FP RX9 235 5 1 0 false .int := ⟨RX5, TX5, 2, tyX5, rfl, by decide, (mem_t1 57 (by decide +kernel)), uwsX5, rfl, tyX5_ok, nmX5, rfl, rfl⟩
theorem fiX9_239 : FI RX9 239 3 6 1 := ⟨RX3, TX3, 9, rfl, by decide, (mem_t1 169 (by decide +kernel)), uwsX3, rfl⟩
theorem cvX9_242 : CV RX9 242 yX5_add cX5_add 3 none 1 := ⟨(mem_t3 124 (by decide +kernel)), (mem_t3 41 (by decide +kernel)), (mem_t3 42 (by decide +kernel)), (mem_t1 3 (by decide +kernel)), (mem_t3 43 (by decide +kernel)), ⟨by decide +kernel, by decide +kernel, by decide +kernel⟩, by decide⟩
theorem fiX9_244 : FI RX9 244 3 7 1 := ⟨RX3, TX3, 9, rfl, by decide, (mem_t1 171 (by decide +kernel)), uwsX3, rfl⟩
theorem fiX9_247 : FI RX9 247 3 8 1 := ⟨RX3, TX3, 9, rfl, by decide, (mem_t1 173 (by decide +kernel)), uwsX3, rfl⟩
theorem cvX9_134 : CV RX9 134 yX4_has cX4_has 2 (some .boolean) 1 := ⟨(mem_t3 129 (by decide +kernel)), (mem_t3 29 (by decide +kernel)), (mem_t3 30 (by decide +kernel)), (mem_t1 4 (by decide +kernel)), (mem_t3 31 (by decide +kernel)), ⟨by decide +kernel, by decide +kernel, by decide +kernel⟩, by decide⟩
theorem cvX9_250 : CV RX9 250 yX3_begin cX3_begin 4 none 2 := ⟨(mem_t3 130 (by decide +kernel)), (mem_t2 226 (by decide +kernel)), (mem_t2 227 (by decide +kernel)), (mem_t1 7 (by decide +kernel)), (mem_t2 228 (by decide +kernel)), ⟨by decide +kernel, by decide +kernel, by decide +kernel⟩, by decide⟩
theorem fiX9_151 : FI RX9 151 4 3 1 := ⟨RX4, TX4, 9, rfl, by decide, (mem_t1 80 (by decide +kernel)), uwsX4, rfl⟩
theorem fn_6_3 {R : Nat → Nat → Nat} (h : Ph R) : R 6 3 = 9 := h.1 (6, 3, 9) (List.mem_of_getElem? (i := 21) (by decide +kernel))
theorem ln_9 : ln 9 = 6 := by decide +kernel
theorem ad_9 : (9 : Nat) ≠ 0 ∧ 9 ≤ 205 ∧ (sh 9).1 = 0 := by decide +kernel
theorem fiX9_257 : FI RX9 257 3 2 1 := ⟨RX3, TX3, 9, rfl, by decide, (mem_t1 162 (by decide +kernel)), uwsX3, rfl⟩
theorem cvX9_253 : CV RX9 253 yX3_pull cX3_pull 6 none 3 := ⟨(mem_t3 131 (by decide +kernel)), (mem_t3 11 (by decide +kernel)), (mem_t3 12 (by decide +kernel)), (mem_t1 7 (by decide +kernel)), (mem_t3 13 (by decide +kernel)), ⟨by decide +kernel, by decide +kernel, by decide +kernel⟩, by decide⟩
theorem fiX9_260 : FI RX9 260 3 1 1 := ⟨RX3, TX3, 9, rfl, by decide, (mem_t1 160 (by decide +kernel)), uwsX3, rfl⟩
theorem cvX9_263 : CV RX9 263 yX3_touchers cX3_touchers 1 (some .int) 0 := ⟨(mem_t3 136 (by decide +kernel)), (mem_t3 137 (by decide +kernel)), (mem_t3 138 (by decide +kernel)), (mem_t1 7 (by decide +kernel)), (mem_t3 139 (by decide +kernel)), ⟨by decide +kernel, by decide +kernel, by decide +kernel⟩, by decide⟩
theorem cvX9_266 : CV RX9 266 yX3_touchedOnes cX3_touchedOnes 1 (some .int) 0 := ⟨(mem_t3 144 (by decide +kernel)), (mem_t3 145 (by decide +kernel)), (mem_t3 146 (by decide +kernel)), (mem_t1 7 (by decide +kernel)), (mem_t3 147 (by decide +kernel)), ⟨by decide +kernel, by decide +kernel, by decide +kernel⟩, by decide⟩
theorem cvX9_269 : CV RX9 269 yX3_goingOnes cX3_goingOnes 4 (some .int) 1 := ⟨(mem_t3 148 (by decide +kernel)), (mem_t3 149 (by decide +kernel)), (mem_t3 150 (by decide +kernel)), (mem_t1 7 (by decide +kernel)), (mem_t3 151 (by decide +kernel)), ⟨by decide +kernel, by decide +kernel, by decide +kernel⟩, by decide⟩
theorem fiX9_273 : FI RX9 273 4 6 0 := ⟨RX4, TX4, 9, rfl, by decide, (mem_t1 89 (by decide +kernel)), uwsX4, rfl⟩
theorem fiX9_276 : FI RX9 276 3 4 0 := ⟨RX3, TX3, 9, rfl, by decide, (mem_t1 165 (by decide +kernel)), uwsX3, rfl⟩
theorem cvX9_279 : CV RX9 279 yX3_nextAhead cX3_nextAhead 3 (some .int) 1 := ⟨(mem_t3 156 (by decide +kernel)), (mem_t2 234 (by decide +kernel)), (mem_t2 235 (by decide +kernel)), (mem_t1 7 (by decide +kernel)), (mem_t2 236 (by decide +kernel)), ⟨by decide +kernel, by decide +kernel, by decide +kernel⟩, by decide⟩
theorem fiX9_33 : FI RX9 33 9 4 1 := ⟨RX9, TX9, 19, rfl, by decide, (mem_t2 49 (by decide +kernel)), uwsX9, rfl⟩
theorem fn_1_4 {R : Nat → Nat → Nat} (h : Ph R) : R 1 4 = 16 := h.1 (1, 4, 16) (List.mem_of_getElem? (i := 4) (by decide +kernel))
theorem ad_16 : (16 : Nat) ≠ 0 ∧ 16 ≤ 205 ∧ (sh 16).1 = 4 + 10 := by decide +kernel
theorem fiX9_148 : FI RX9 148 4 2 1 := ⟨RX4, TX4, 9, rfl, by decide, (mem_t1 78 (by decide +kernel)), uwsX4, rfl⟩
theorem fn_16_2 {R : Nat → Nat → Nat} (h : Ph R) : R 16 2 = 18 := h.1 (16, 2, 18) (List.mem_of_getElem? (i := 28) (by decide +kernel))
theorem ln_18 : ln 18 = 6 := by decide +kernel
theorem ad_18 : (18 : Nat) ≠ 0 ∧ 18 ≤ 205 ∧ (sh 18).1 = 0 := by decide +kernel
theorem fn_16_3 {R : Nat → Nat → Nat} (h : Ph R) : R 16 3 = 19 := h.1 (16, 3, 19) (List.mem_of_getElem? (i := 29) (by decide +kernel))
theorem ln_19 : ln 19 = 6 := by decide +kernel
theorem ad_19 : (19 : Nat) ≠ 0 ∧ 19 ≤ 205 ∧ (sh 19).1 = 0 := by decide +kernel
theorem cvX9_161 : CV RX9 161 yX3_touchedBy cX3_touchedBy 3 (some .int) 1 := ⟨(mem_t3 169 (by decide +kernel)), (mem_t3 170 (by decide +kernel)), (mem_t3 171 (by decide +kernel)), (mem_t1 7 (by decide +kernel)), (mem_t3 172 (by decide +kernel)), ⟨by decide +kernel, by decide +kernel, by decide +kernel⟩, by decide⟩
theorem fiX9_89 : FI RX9 89 9 15 1 := ⟨RX9, TX9, 19, rfl, by decide, (mem_t2 60 (by decide +kernel)), uwsX9, rfl⟩
theorem fn_1_15 {R : Nat → Nat → Nat} (h : Ph R) : R 1 15 = 144 := h.1 (1, 15, 144) (List.mem_of_getElem? (i := 15) (by decide +kernel))
theorem ln_144 : ln 144 = 61 := by decide +kernel
theorem ad_144 : (144 : Nat) ≠ 0 ∧ 144 ≤ 205 ∧ (sh 144).1 = 0 := by decide +kernel
theorem cvX9_285 : CV RX9 285 yX4_orderNumber cX4_orderNumber 3 (some .int) 0 := ⟨(mem_t3 185 (by decide +kernel)), (mem_t3 186 (by decide +kernel)), (mem_t3 187 (by decide +kernel)), (mem_t1 4 (by decide +kernel)), (mem_t3 188 (by decide +kernel)), ⟨by decide +kernel, by decide +kernel, by decide +kernel⟩, by decide⟩
theorem cvX9_288 : CV RX9 288 yX9_isSeen cX9_isSeen 4 (some .boolean) 2 := ⟨(mem_t3 189 (by decide +kernel)), (mem_t3 191 (by decide +kernel)), (mem_g 22 (by decide +kernel) (by decide +kernel)), (mem_t1 1 (by decide +kernel)), (mem_t3 192 (by decide +kernel)), ⟨by decide +kernel, by decide +kernel, by decide +kernel⟩, by decide⟩
theorem fiX9_71 : FI RX9 71 9 11 1 := ⟨RX9, TX9, 19, rfl, by decide, (mem_t2 56 (by decide +kernel)), uwsX9, rfl⟩
theorem fn_1_11 {R : Nat → Nat → Nat} (h : Ph R) : R 1 11 = 115 := h.1 (1, 11, 115) (List.mem_of_getElem? (i := 11) (by decide +kernel))
theorem cvX9_292 : CV RX9 292 yX1_prepare cX1_prepare 3 none 1 := ⟨(mem_t3 197 (by decide +kernel)), (mem_t3 198 (by decide +kernel)), (mem_t3 199 (by decide +kernel)), (mem_t1 8 (by decide +kernel)), (mem_t3 200 (by decide +kernel)), ⟨by decide +kernel, by decide +kernel, by decide +kernel⟩, by decide⟩
theorem fiX9_295 : FI RX9 295 1 3 0 := ⟨RX1, TX1, 10, rfl, by decide, (mem_t1 206 (by decide +kernel)), uwsX1, rfl⟩
theorem fiX9_298 : FI RX9 298 1 4 0 := ⟨RX1, TX1, 10, rfl, by decide, (mem_t1 208 (by decide +kernel)), uwsX1, rfl⟩
theorem fiX9_301 : FI RX9 301 1 2 0 := ⟨RX1, TX1, 10, rfl, by decide, (mem_t1 204 (by decide +kernel)), uwsX1, rfl⟩
theorem cvX9_304 : CV RX9 304 yX1_ordersWithin cX1_ordersWithin 4 (some .int) 1 := ⟨(mem_t4 4 (by decide +kernel)), (mem_t4 5 (by decide +kernel)), (mem_t4 6 (by decide +kernel)), (mem_t1 8 (by decide +kernel)), (mem_t4 7 (by decide +kernel)), ⟨by decide +kernel, by decide +kernel, by decide +kernel⟩, by decide⟩
theorem cvX9_307 : CV RX9 307 yX1_countPlaces cX1_countPlaces 5 none 2 := ⟨(mem_t4 12 (by decide +kernel)), (mem_t4 13 (by decide +kernel)), (mem_t4 14 (by decide +kernel)), (mem_t1 8 (by decide +kernel)), (mem_t4 15 (by decide +kernel)), ⟨by decide +kernel, by decide +kernel, by decide +kernel⟩, by decide⟩
theorem fiX9_310 : FI RX9 310 1 7 1 := ⟨RX1, TX1, 10, rfl, by decide, (mem_t1 212 (by decide +kernel)), uwsX1, rfl⟩
theorem fiX9_82 : FI RX9 82 9 13 1 := ⟨RX9, TX9, 19, rfl, by decide, (mem_t2 58 (by decide +kernel)), uwsX9, rfl⟩
theorem fn_1_13 {R : Nat → Nat → Nat} (h : Ph R) : R 1 13 = 142 := h.1 (1, 13, 142) (List.mem_of_getElem? (i := 13) (by decide +kernel))
theorem ln_142 : ln 142 = 6 := by decide +kernel
theorem ad_142 : (142 : Nat) ≠ 0 ∧ 142 ≤ 205 ∧ (sh 142).1 = 0 := by decide +kernel
theorem cvX9_329 : CV RX9 329 yX9_readOrder cX9_readOrder 5 (some .int) 1 := ⟨(mem_t4 24 (by decide +kernel)), (mem_t4 26 (by decide +kernel)), (mem_g 29 (by decide +kernel) (by decide +kernel)), (mem_t1 1 (by decide +kernel)), (mem_t4 27 (by decide +kernel)), ⟨by decide +kernel, by decide +kernel, by decide +kernel⟩, by decide⟩
theorem fiX9_86 : FI RX9 86 9 14 1 := ⟨RX9, TX9, 19, rfl, by decide, (mem_t2 59 (by decide +kernel)), uwsX9, rfl⟩
theorem fn_1_14 {R : Nat → Nat → Nat} (h : Ph R) : R 1 14 = 143 := h.1 (1, 14, 143) (List.mem_of_getElem? (i := 14) (by decide +kernel))
theorem ln_143 : ln 143 = 6 := by decide +kernel
theorem ad_143 : (143 : Nat) ≠ 0 ∧ 143 ≤ 205 ∧ (sh 143).1 = 0 := by decide +kernel
theorem cvX9_313 : CV RX9 313 yX9_orderFault cX9_orderFault 2 (some .int) 0 := ⟨(mem_t4 20 (by decide +kernel)), (mem_t4 22 (by decide +kernel)), (mem_g 28 (by decide +kernel) (by decide +kernel)), (mem_t1 1 (by decide +kernel)), (mem_t4 23 (by decide +kernel)), ⟨by decide +kernel, by decide +kernel, by decide +kernel⟩, by decide⟩
theorem cvX9_316 : CV RX9 316 yX9_relate cX9_relate 3 none 1 := ⟨(mem_t4 28 (by decide +kernel)), (mem_t4 30 (by decide +kernel)), (mem_g 30 (by decide +kernel) (by decide +kernel)), (mem_t1 1 (by decide +kernel)), (mem_t4 31 (by decide +kernel)), ⟨by decide +kernel, by decide +kernel, by decide +kernel⟩, by decide⟩
theorem cvX9_319 : CV RX9 319 yX1_daysFor cX1_daysFor 2 (some .int) 1 := ⟨(mem_t4 32 (by decide +kernel)), (mem_t4 33 (by decide +kernel)), (mem_t4 34 (by decide +kernel)), (mem_t1 8 (by decide +kernel)), (mem_t4 35 (by decide +kernel)), ⟨by decide +kernel, by decide +kernel, by decide +kernel⟩, by decide⟩
theorem mmX9_426 : MM RX9 426 Lib.Math.abs.name Lib.Math.abs.code 1 := ⟨(mem_t4 44 (by decide +kernel)), (mem_t4 45 (by decide +kernel)), (mem_t1 12 (by decide +kernel)), (mem_t4 46 (by decide +kernel))⟩
theorem cvX9_323 : CV RX9 323 yX9_tellFarthest cX9_tellFarthest 6 none 0 := ⟨(mem_t4 40 (by decide +kernel)), (mem_t4 42 (by decide +kernel)), (mem_g 31 (by decide +kernel) (by decide +kernel)), (mem_t1 1 (by decide +kernel)), (mem_t4 43 (by decide +kernel)), ⟨by decide +kernel, by decide +kernel, by decide +kernel⟩, by decide⟩
theorem cvX9_326 : CV RX9 326 yX9_chartFault cX9_chartFault 4 (some .int) 0 := ⟨(mem_t4 51 (by decide +kernel)), (mem_t4 53 (by decide +kernel)), (mem_g 32 (by decide +kernel) (by decide +kernel)), (mem_t1 1 (by decide +kernel)), (mem_t4 54 (by decide +kernel)), ⟨by decide +kernel, by decide +kernel, by decide +kernel⟩, by decide⟩
theorem csX9_332 : CS RX9 332 yX1_isLawful cX1_isLawful 4 (some .boolean) 2 := ⟨(mem_t4 55 (by decide +kernel)), (mem_t3 213 (by decide +kernel)), (mem_t1 8 (by decide +kernel)), (mem_t3 214 (by decide +kernel)), ⟨by decide +kernel, by decide +kernel, by decide +kernel⟩, by decide⟩
theorem csX9_336 : CS RX9 336 yX1_pairsOf cX1_pairsOf 4 (some .int) 2 := ⟨(mem_t4 56 (by decide +kernel)), (mem_t3 219 (by decide +kernel)), (mem_t1 8 (by decide +kernel)), (mem_t3 220 (by decide +kernel)), ⟨by decide +kernel, by decide +kernel, by decide +kernel⟩, by decide⟩
theorem cvX9_340 : CV RX9 340 yX4_standAs cX4_standAs 3 none 1 := ⟨(mem_t4 57 (by decide +kernel)), (mem_t4 58 (by decide +kernel)), (mem_t4 59 (by decide +kernel)), (mem_t1 4 (by decide +kernel)), (mem_t4 60 (by decide +kernel)), ⟨by decide +kernel, by decide +kernel, by decide +kernel⟩, by decide⟩
theorem fiX9_145 : FI RX9 145 4 1 1 := ⟨RX4, TX4, 9, rfl, by decide, (mem_t1 75 (by decide +kernel)), uwsX4, rfl⟩
theorem fn_16_1 {R : Nat → Nat → Nat} (h : Ph R) : R 16 1 = 17 := h.1 (16, 1, 17) (List.mem_of_getElem? (i := 27) (by decide +kernel))
theorem ln_17 : ln 17 = 6 := by decide +kernel
theorem ad_17 : (17 : Nat) ≠ 0 ∧ 17 ≤ 205 ∧ (sh 17).1 = 0 := by decide +kernel
theorem cvX9_344 : CV RX9 344 yX3_strokeBy cX3_strokeBy 3 (some .int) 1 := ⟨(mem_t4 65 (by decide +kernel)), (mem_t4 66 (by decide +kernel)), (mem_t4 67 (by decide +kernel)), (mem_t1 7 (by decide +kernel)), (mem_t4 68 (by decide +kernel)), ⟨by decide +kernel, by decide +kernel, by decide +kernel⟩, by decide⟩
theorem fpX9_347 : FP RX9 347 4 5 0 false .int := ⟨RX4, TX4, 9, tyX4, rfl, by decide, (mem_t1 86 (by decide +kernel)), uwsX4, rfl, tyX4_ok, nmX4, rfl, rfl⟩
theorem fiX9_36 : FI RX9 36 9 5 1 := ⟨RX9, TX9, 19, rfl, by decide, (mem_t2 50 (by decide +kernel)), uwsX9, rfl⟩
theorem fn_1_5 {R : Nat → Nat → Nat} (h : Ph R) : R 1 5 = 21 := h.1 (1, 5, 21) (List.mem_of_getElem? (i := 5) (by decide +kernel))
theorem ad_21 : (21 : Nat) ≠ 0 ∧ 21 ≤ 205 ∧ (sh 21).1 = 4 + 10 := by decide +kernel
theorem fiX9_350 : FI RX9 350 4 4 1 := ⟨RX4, TX4, 9, rfl, by decide, (mem_t1 83 (by decide +kernel)), uwsX4, rfl⟩
theorem fn_16_4 {R : Nat → Nat → Nat} (h : Ph R) : R 16 4 = 20 := h.1 (16, 4, 20) (List.mem_of_getElem? (i := 30) (by decide +kernel))
theorem ln_20 : ln 20 = 6 := by decide +kernel
theorem ad_20 : (20 : Nat) ≠ 0 ∧ 20 ≤ 205 ∧ (sh 20).1 = 0 := by decide +kernel
theorem fn_21_4 {R : Nat → Nat → Nat} (h : Ph R) : R 21 4 = 25 := h.1 (21, 4, 25) (List.mem_of_getElem? (i := 34) (by decide +kernel))
theorem ln_25 : ln 25 = 6 := by decide +kernel
theorem ad_25 : (25 : Nat) ≠ 0 ∧ 25 ≤ 205 ∧ (sh 25).1 = 0 := by decide +kernel
theorem cvX9_351 : CV RX9 351 yX9_placeIfRested cX9_placeIfRested 4 (some .int) 3 := ⟨(mem_t4 81 (by decide +kernel)), (mem_t4 83 (by decide +kernel)), (mem_g 33 (by decide +kernel) (by decide +kernel)), (mem_t1 1 (by decide +kernel)), (mem_t4 84 (by decide +kernel)), ⟨by decide +kernel, by decide +kernel, by decide +kernel⟩, by decide⟩
theorem fn_6_2 {R : Nat → Nat → Nat} (h : Ph R) : R 6 2 = 8 := h.1 (6, 2, 8) (List.mem_of_getElem? (i := 20) (by decide +kernel))
theorem ln_8 : ln 8 = 6 := by decide +kernel
theorem ad_8 : (8 : Nat) ≠ 0 ∧ 8 ≤ 205 ∧ (sh 8).1 = 0 := by decide +kernel
theorem ksX9_369 : Cond.fieldLink RX9 369 "BumpsRiver" "HEARD_LEAST" "[I" ∈ gtbl := (mem_t4 92 (by decide +kernel))
theorem ksX9_372 : Cond.fieldLink RX9 372 "BumpsRiver" "HEARD_MOST" "[I" ∈ gtbl := (mem_t4 94 (by decide +kernel))
theorem csX9_355 : CS RX9 355 yX9_mayBeHeard cX9_mayBeHeard 2 (some .boolean) 2 := ⟨(mem_t4 89 (by decide +kernel)), (mem_t4 90 (by decide +kernel)), (mem_t1 1 (by decide +kernel)), (mem_t4 91 (by decide +kernel)), ⟨by decide +kernel, by decide +kernel, by decide +kernel⟩, by decide⟩
theorem fiX9_57 : FI RX9 57 9 9 1 := ⟨RX9, TX9, 19, rfl, by decide, (mem_t2 54 (by decide +kernel)), uwsX9, rfl⟩
theorem fn_1_9 {R : Nat → Nat → Nat} (h : Ph R) : R 1 9 = 105 := h.1 (1, 9, 105) (List.mem_of_getElem? (i := 9) (by decide +kernel))
theorem fiX9_358 : FI RX9 358 7 2 0 := ⟨RX7, TX7, 3, rfl, by decide, (mem_t1 143 (by decide +kernel)), uwsX7, rfl⟩
theorem cvX9_359 : CV RX9 359 yX7_add cX7_add 3 none 2 := ⟨(mem_t4 96 (by decide +kernel)), (mem_t4 97 (by decide +kernel)), (mem_t4 98 (by decide +kernel)), (mem_t1 6 (by decide +kernel)), (mem_t4 99 (by decide +kernel)), ⟨by decide +kernel, by decide +kernel, by decide +kernel⟩, by decide⟩
theorem fpX9_358 : FP RX9 358 7 2 0 false .int := ⟨RX7, TX7, 3, tyX7, rfl, by decide, (mem_t1 143 (by decide +kernel)), uwsX7, rfl, tyX7_ok, nmX7, rfl, rfl⟩
theorem fn_6_1 {R : Nat → Nat → Nat} (h : Ph R) : R 6 1 = 7 := h.1 (6, 1, 7) (List.mem_of_getElem? (i := 19) (by decide +kernel))
theorem ln_7 : ln 7 = 6 := by decide +kernel
theorem ad_7 : (7 : Nat) ≠ 0 ∧ 7 ≤ 205 ∧ (sh 7).1 = 0 := by decide +kernel
theorem fiX9_429 : FI RX9 429 7 0 1 := ⟨RX7, TX7, 3, rfl, by decide, (mem_t1 139 (by decide +kernel)), uwsX7, rfl⟩
theorem fiX9_432 : FI RX9 432 7 1 1 := ⟨RX7, TX7, 3, rfl, by decide, (mem_t1 141 (by decide +kernel)), uwsX7, rfl⟩
theorem cvX9_375 : CV RX9 375 yX9_boatsOfWhich cX9_boatsOfWhich 7 (some .int) 2 := ⟨(mem_t4 112 (by decide +kernel)), (mem_t4 114 (by decide +kernel)), (mem_g 35 (by decide +kernel) (by decide +kernel)), (mem_t1 1 (by decide +kernel)), (mem_t4 115 (by decide +kernel)), ⟨by decide +kernel, by decide +kernel, by decide +kernel⟩, by decide⟩
theorem cvX9_361 : CV RX9 361 yX9_fittingBoats cX9_fittingBoats 3 (some .int) 0 := ⟨(mem_t4 108 (by decide +kernel)), (mem_t4 110 (by decide +kernel)), (mem_g 34 (by decide +kernel) (by decide +kernel)), (mem_t1 1 (by decide +kernel)), (mem_t4 111 (by decide +kernel)), ⟨by decide +kernel, by decide +kernel, by decide +kernel⟩, by decide⟩
theorem csX9_364 : CS RX9 364 yBC cBC 1 (some .int) 1 := ⟨(mem_t4 116 (by decide +kernel)), (mem_t3 235 (by decide +kernel)), (mem_t1 21 (by decide +kernel)), (mem_t3 236 (by decide +kernel)), ⟨by decide +kernel, by decide +kernel, by decide +kernel⟩, by decide⟩
theorem mmX9_378 : MM RX9 378 Lib.Math.max.name Lib.Math.max.code 2 := ⟨(mem_t4 121 (by decide +kernel)), (mem_t2 195 (by decide +kernel)), (mem_t1 12 (by decide +kernel)), (mem_t2 196 (by decide +kernel))⟩
theorem csX9_389 : CS RX9 389 yX9_greatestDivisor cX9_greatestDivisor 6 (some .int) 2 := ⟨(mem_t4 134 (by decide +kernel)), (mem_t4 135 (by decide +kernel)), (mem_t1 1 (by decide +kernel)), (mem_t4 136 (by decide +kernel)), ⟨by decide +kernel, by decide +kernel, by decide +kernel⟩, by decide⟩
theorem cvX9_383 : CV RX9 383 yX9_weightOf cX9_weightOf 5 (some .int) 2 := ⟨(mem_t4 126 (by decide +kernel)), (mem_t4 128 (by decide +kernel)), (mem_g 36 (by decide +kernel) (by decide +kernel)), (mem_t1 1 (by decide +kernel)), (mem_t4 129 (by decide +kernel)), ⟨by decide +kernel, by decide +kernel, by decide +kernel⟩, by decide⟩
theorem cvX9_386 : CV RX9 386 yX9_rowBetter cX9_rowBetter 3 none 1 := ⟨(mem_t4 130 (by decide +kernel)), (mem_t4 132 (by decide +kernel)), (mem_g 37 (by decide +kernel) (by decide +kernel)), (mem_t1 1 (by decide +kernel)), (mem_t4 133 (by decide +kernel)), ⟨by decide +kernel, by decide +kernel, by decide +kernel⟩, by decide⟩
theorem fiX9_92 : FI RX9 92 9 16 1 := ⟨RX9, TX9, 19, rfl, by decide, (mem_t2 61 (by decide +kernel)), uwsX9, rfl⟩
theorem fn_1_16 {R : Nat → Nat → Nat} (h : Ph R) : R 1 16 = 145 := h.1 (1, 16, 145) (List.mem_of_getElem? (i := 16) (by decide +kernel))
theorem ln_145 : ln 145 = 61 := by decide +kernel
theorem ad_145 : (145 : Nat) ≠ 0 ∧ 145 ≤ 205 ∧ (sh 145).1 = 1 := by decide +kernel
theorem cvX9_392 : CV RX9 392 yX9_winningPull cX9_winningPull 5 (some .int) 2 := ⟨(mem_t4 141 (by decide +kernel)), (mem_t4 143 (by decide +kernel)), (mem_g 38 (by decide +kernel) (by decide +kernel)), (mem_t1 1 (by decide +kernel)), (mem_t4 144 (by decide +kernel)), ⟨by decide +kernel, by decide +kernel, by decide +kernel⟩, by decide⟩
theorem csX9_435 : CS RX9 435 yX9_spurtGain cX9_spurtGain 3 (some .int) 3 := ⟨(mem_t4 156 (by decide +kernel)), (mem_t4 157 (by decide +kernel)), (mem_t1 1 (by decide +kernel)), (mem_t4 158 (by decide +kernel)), ⟨by decide +kernel, by decide +kernel, by decide +kernel⟩, by decide⟩
theorem csX9_395 : CS RX9 395 yX9_isBestSpurt cX9_isBestSpurt 5 (some .boolean) 3 := ⟨(mem_t4 153 (by decide +kernel)), (mem_t4 154 (by decide +kernel)), (mem_t1 1 (by decide +kernel)), (mem_t4 155 (by decide +kernel)), ⟨by decide +kernel, by decide +kernel, by decide +kernel⟩, by decide⟩
theorem fiX9_78 : FI RX9 78 9 12 1 := ⟨RX9, TX9, 19, rfl, by decide, (mem_t2 57 (by decide +kernel)), uwsX9, rfl⟩
theorem fn_1_12 {R : Nat → Nat → Nat} (h : Ph R) : R 1 12 = 141 := h.1 (1, 12, 141) (List.mem_of_getElem? (i := 12) (by decide +kernel))
theorem cvX9_438 : CV RX9 438 yX0_draw cX0_draw 2 (some .int) 1 := ⟨(mem_t4 167 (by decide +kernel)), (mem_t4 168 (by decide +kernel)), (mem_t4 169 (by decide +kernel)), (mem_t1 9 (by decide +kernel)), (mem_t4 170 (by decide +kernel)), ⟨by decide +kernel, by decide +kernel, by decide +kernel⟩, by decide⟩
theorem fpX9_399 : FP RX9 399 0 0 0 false .int := ⟨RX0, TX0, 1, tyX0, rfl, by decide, (mem_t2 3 (by decide +kernel)), uwsX0, rfl, tyX0_ok, nmX0, rfl, rfl⟩
theorem cvX9_405 : CV RX9 405 yX4_sumOfTired cX4_sumOfTired 3 (some .int) 0 := ⟨(mem_t4 172 (by decide +kernel)), (mem_t4 173 (by decide +kernel)), (mem_t4 174 (by decide +kernel)), (mem_t1 4 (by decide +kernel)), (mem_t4 175 (by decide +kernel)), ⟨by decide +kernel, by decide +kernel, by decide +kernel⟩, by decide⟩
theorem cvX9_402 : CV RX9 402 yX9_drawnTurn cX9_drawnTurn 3 (some .int) 0 := ⟨(mem_t4 163 (by decide +kernel)), (mem_t4 165 (by decide +kernel)), (mem_g 39 (by decide +kernel) (by decide +kernel)), (mem_t1 1 (by decide +kernel)), (mem_t4 166 (by decide +kernel)), ⟨by decide +kernel, by decide +kernel, by decide +kernel⟩, by decide⟩
theorem fiX9_46 : FI RX9 46 9 7 1 := ⟨RX9, TX9, 19, rfl, by decide, (mem_t2 52 (by decide +kernel)), uwsX9, rfl⟩
theorem fn_1_7 {R : Nat → Nat → Nat} (h : Ph R) : R 1 7 = 103 := h.1 (1, 7, 103) (List.mem_of_getElem? (i := 7) (by decide +kernel))
theorem ln_103 : ln 103 = 3 := by decide +kernel
theorem ad_103 : (103 : Nat) ≠ 0 ∧ 103 ≤ 205 ∧ (sh 103).1 = 3 := by decide +kernel
theorem fiX9_347 : FI RX9 347 4 5 0 := ⟨RX4, TX4, 9, rfl, by decide, (mem_t1 86 (by decide +kernel)), uwsX4, rfl⟩
theorem fiX9_408 : FI RX9 408 4 8 0 := ⟨RX4, TX4, 9, rfl, by decide, (mem_t1 95 (by decide +kernel)), uwsX4, rfl⟩
theorem fiX9_235 : FI RX9 235 5 1 0 := ⟨RX5, TX5, 2, rfl, by decide, (mem_t1 57 (by decide +kernel)), uwsX5, rfl⟩
theorem uwsX10 : ∀ w ∈ u_ws RX10 TX10 54, w ∈ gtbl := fun w h => List.mem_filter.mpr ⟨(show ∀ w ∈ u_ws RX10 TX10 54, w ∈ lw_tbl by decide +kernel) w h, (show ∀ w ∈ u_ws RX10 TX10 54, goodWord w = true by decide +kernel) w h⟩
theorem fiX10_3 : FI RX10 3 10 0 0 := ⟨RX10, TX10, 54, rfl, by decide, (mem_t5 53 (by decide +kernel)), uwsX10, rfl⟩
theorem ad_169 : (169 : Nat) ≠ 0 ∧ 169 ≤ 205 ∧ (sh 169).1 = 10 + 10 := by decide +kernel
theorem fpX10_3 : FP RX10 3 10 0 0 false .int := ⟨RX10, TX10, 54, tyX10, rfl, by decide, (mem_t5 53 (by decide +kernel)), uwsX10, rfl, tyX10_ok, nmX10, rfl, rfl⟩
theorem csX10_7 : CS RX10 7 yX10_common cX10_common 4 (some .long) 2 := ⟨(mem_t7 193 (by decide +kernel)), (mem_t7 194 (by decide +kernel)), (mem_t1 11 (by decide +kernel)), (mem_t7 195 (by decide +kernel)), ⟨by decide +kernel, by decide +kernel, by decide +kernel⟩, by decide⟩
theorem fiX10_11 : FI RX10 11 10 2 1 := ⟨RX10, TX10, 54, rfl, by decide, (mem_t5 55 (by decide +kernel)), uwsX10, rfl⟩
theorem fn_169_2 {R : Nat → Nat → Nat} (h : Ph R) : R 169 2 = 170 := h.1 (169, 2, 170) (List.mem_of_getElem? (i := 152) (by decide +kernel))
theorem fiX10_15 : FI RX10 15 10 1 0 := ⟨RX10, TX10, 54, rfl, by decide, (mem_t5 54 (by decide +kernel)), uwsX10, rfl⟩
theorem ln_170 : ln 170 = 24 := by decide +kernel
theorem ad_170 : (170 : Nat) ≠ 0 ∧ 170 ≤ 205 ∧ (sh 170).1 = 2 := by decide +kernel
theorem fpX10_15 : FP RX10 15 10 1 0 false .int := ⟨RX10, TX10, 54, tyX10, rfl, by decide, (mem_t5 54 (by decide +kernel)), uwsX10, rfl, tyX10_ok, nmX10, rfl, rfl⟩
theorem fiX10_128 : FI RX10 128 10 3 0 := ⟨RX10, TX10, 54, rfl, by decide, (mem_t5 56 (by decide +kernel)), uwsX10, rfl⟩
theorem csX10_131 : CS RX10 131 yX10_in cX10_in 6 (some .boolean) 3 := ⟨(mem_t5 224 (by decide +kernel)), (mem_t5 225 (by decide +kernel)), (mem_t1 11 (by decide +kernel)), (mem_t5 226 (by decide +kernel)), ⟨by decide +kernel, by decide +kernel, by decide +kernel⟩, by decide⟩
theorem fiX10_135 : FI RX10 135 10 8 0 := ⟨RX10, TX10, 54, rfl, by decide, (mem_t5 61 (by decide +kernel)), uwsX10, rfl⟩
theorem fpX10_135 : FP RX10 135 10 8 0 false .int := ⟨RX10, TX10, 54, tyX10, rfl, by decide, (mem_t5 61 (by decide +kernel)), uwsX10, rfl, tyX10_ok, nmX10, rfl, rfl⟩
theorem fiX10_31 : FI RX10 31 10 7 1 := ⟨RX10, TX10, 54, rfl, by decide, (mem_t5 60 (by decide +kernel)), uwsX10, rfl⟩
theorem fn_169_7 {R : Nat → Nat → Nat} (h : Ph R) : R 169 7 = 173 := h.1 (169, 7, 173) (List.mem_of_getElem? (i := 155) (by decide +kernel))
theorem ln_173 : ln 173 = 80 := by decide +kernel
theorem ad_173 : (173 : Nat) ≠ 0 ∧ 173 ≤ 205 ∧ (sh 173).1 = 0 := by decide +kernel
theorem fpX10_138 : FP RX10 138 10 9 0 false .int := ⟨RX10, TX10, 54, tyX10, rfl, by decide, (mem_t5 62 (by decide +kernel)), uwsX10, rfl, tyX10_ok, nmX10, rfl, rfl⟩
theorem fpX10_141 : FP RX10 141 10 11 0 false .int := ⟨RX10, TX10, 54, tyX10, rfl, by decide, (mem_t5 64 (by decide +kernel)), uwsX10, rfl, tyX10_ok, nmX10, rfl, rfl⟩
theorem mmX10_144 : MM RX10 144 Lib.Math.min.name Lib.Math.min.code 2 := ⟨(mem_t5 235 (by decide +kernel)), (mem_t2 192 (by decide +kernel)), (mem_t1 12 (by decide +kernel)), (mem_t2 193 (by decide +kernel))⟩
theorem fpX10_150 : FP RX10 150 10 10 0 false .int := ⟨RX10, TX10, 54, tyX10, rfl, by decide, (mem_t5 63 (by decide +kernel)), uwsX10, rfl, tyX10_ok, nmX10, rfl, rfl⟩
theorem fiX10_138 : FI RX10 138 10 9 0 := ⟨RX10, TX10, 54, rfl, by decide, (mem_t5 62 (by decide +kernel)), uwsX10, rfl⟩
theorem fiX10_150 : FI RX10 150 10 10 0 := ⟨RX10, TX10, 54, rfl, by decide, (mem_t5 63 (by decide +kernel)), uwsX10, rfl⟩
theorem csX10_153 : CS RX10 153 yX10_flag cX10_flag 1 (some .int) 1 := ⟨(mem_t6 18 (by decide +kernel)), (mem_t6 19 (by decide +kernel)), (mem_t1 11 (by decide +kernel)), (mem_t6 20 (by decide +kernel)), ⟨by decide +kernel, by decide +kernel, by decide +kernel⟩, by decide⟩
theorem klX10_157 : Cond.constantLong RX10 157 48 ∈ gtbl := (mem_t6 12 (by decide +kernel))
theorem klX10_159 : Cond.constantLong RX10 159 57 ∈ gtbl := (mem_t6 13 (by decide +kernel))
theorem cvX10_171 : CV RX10 171 yX10_isDigit cX10_isDigit 1 (some .boolean) 0 := ⟨(mem_t6 8 (by decide +kernel)), (mem_t6 10 (by decide +kernel)), (mem_g 45 (by decide +kernel) (by decide +kernel)), (mem_t1 11 (by decide +kernel)), (mem_t6 11 (by decide +kernel)), ⟨by decide +kernel, by decide +kernel, by decide +kernel⟩, by decide⟩
theorem fiX10_175 : FI RX10 175 10 13 0 := ⟨RX10, TX10, 54, rfl, by decide, (mem_t5 66 (by decide +kernel)), uwsX10, rfl⟩
theorem fiX10_34 : FI RX10 34 10 12 1 := ⟨RX10, TX10, 54, rfl, by decide, (mem_t5 65 (by decide +kernel)), uwsX10, rfl⟩
theorem fn_169_12 {R : Nat → Nat → Nat} (h : Ph R) : R 169 12 = 174 := h.1 (169, 12, 174) (List.mem_of_getElem? (i := 156) (by decide +kernel))
theorem cvX10_178 : CV RX10 178 yX10_digitIn cX10_digitIn 3 (some .int) 2 := ⟨(mem_t6 0 (by decide +kernel)), (mem_t6 2 (by decide +kernel)), (mem_g 43 (by decide +kernel) (by decide +kernel)), (mem_t1 11 (by decide +kernel)), (mem_t6 3 (by decide +kernel)), ⟨by decide +kernel, by decide +kernel, by decide +kernel⟩, by decide⟩
theorem ln_174 : ln 174 = 12 := by decide +kernel
theorem ad_174 : (174 : Nat) ≠ 0 ∧ 174 ≤ 205 ∧ (sh 174).1 = 0 := by decide +kernel
theorem cvX10_181 : CV RX10 181 yX10_number cX10_number 4 (some .int) 1 := ⟨(mem_t6 4 (by decide +kernel)), (mem_t6 6 (by decide +kernel)), (mem_g 44 (by decide +kernel) (by decide +kernel)), (mem_t1 11 (by decide +kernel)), (mem_t6 7 (by decide +kernel)), ⟨by decide +kernel, by decide +kernel, by decide +kernel⟩, by decide⟩
theorem fpX10_175 : FP RX10 175 10 13 0 false .int := ⟨RX10, TX10, 54, tyX10, rfl, by decide, (mem_t5 66 (by decide +kernel)), uwsX10, rfl, tyX10_ok, nmX10, rfl, rfl⟩
theorem cvX10_185 : CV RX10 185 yX10_begins cX10_begins 3 (some .int) 1 := ⟨(mem_t5 231 (by decide +kernel)), (mem_t5 233 (by decide +kernel)), (mem_g 41 (by decide +kernel) (by decide +kernel)), (mem_t1 11 (by decide +kernel)), (mem_t5 234 (by decide +kernel)), ⟨by decide +kernel, by decide +kernel, by decide +kernel⟩, by decide⟩
theorem cvX10_195 : CV RX10 195 yX10_faultOf cX10_faultOf 5 (some .int) 3 := ⟨(mem_t6 21 (by decide +kernel)), (mem_t6 23 (by decide +kernel)), (mem_g 47 (by decide +kernel) (by decide +kernel)), (mem_t1 11 (by decide +kernel)), (mem_t6 24 (by decide +kernel)), ⟨by decide +kernel, by decide +kernel, by decide +kernel⟩, by decide⟩
theorem cvX10_188 : CV RX10 188 yX10_readsBoat cX10_readsBoat 2 (some .boolean) 0 := ⟨(mem_t5 236 (by decide +kernel)), (mem_t5 238 (by decide +kernel)), (mem_g 42 (by decide +kernel) (by decide +kernel)), (mem_t1 11 (by decide +kernel)), (mem_t5 239 (by decide +kernel)), ⟨by decide +kernel, by decide +kernel, by decide +kernel⟩, by decide⟩
theorem cvX10_191 : CV RX10 191 yX10_takes cX10_takes 3 (some .boolean) 1 := ⟨(mem_t6 14 (by decide +kernel)), (mem_t6 16 (by decide +kernel)), (mem_g 46 (by decide +kernel) (by decide +kernel)), (mem_t1 11 (by decide +kernel)), (mem_t6 17 (by decide +kernel)), ⟨by decide +kernel, by decide +kernel, by decide +kernel⟩, by decide⟩
theorem fiX10_199 : FI RX10 199 10 28 0 := ⟨RX10, TX10, 54, rfl, by decide, (mem_t5 81 (by decide +kernel)), uwsX10, rfl⟩
theorem fiX10_24 : FI RX10 24 10 5 1 := ⟨RX10, TX10, 54, rfl, by decide, (mem_t5 58 (by decide +kernel)), uwsX10, rfl⟩
theorem fn_169_5 {R : Nat → Nat → Nat} (h : Ph R) : R 169 5 = 171 := h.1 (169, 5, 171) (List.mem_of_getElem? (i := 153) (by decide +kernel))
theorem ln_171 : ln 171 = 22 := by decide +kernel
theorem ad_171 : (171 : Nat) ≠ 0 ∧ 171 ≤ 205 ∧ (sh 171).1 = 0 := by decide +kernel
theorem fpX10_128 : FP RX10 128 10 3 0 false .int := ⟨RX10, TX10, 54, tyX10, rfl, by decide, (mem_t5 56 (by decide +kernel)), uwsX10, rfl, tyX10_ok, nmX10, rfl, rfl⟩
theorem fpX10_199 : FP RX10 199 10 28 0 false .int := ⟨RX10, TX10, 54, tyX10, rfl, by decide, (mem_t5 81 (by decide +kernel)), uwsX10, rfl, tyX10_ok, nmX10, rfl, rfl⟩
theorem fiX10_202 : FI RX10 202 10 4 0 := ⟨RX10, TX10, 54, rfl, by decide, (mem_t5 57 (by decide +kernel)), uwsX10, rfl⟩
theorem fpX10_202 : FP RX10 202 10 4 0 false .int := ⟨RX10, TX10, 54, tyX10, rfl, by decide, (mem_t5 57 (by decide +kernel)), uwsX10, rfl, tyX10_ok, nmX10, rfl, rfl⟩
theorem fiX10_40 : FI RX10 40 10 15 1 := ⟨RX10, TX10, 54, rfl, by decide, (mem_t5 68 (by decide +kernel)), uwsX10, rfl⟩
theorem fn_169_15 {R : Nat → Nat → Nat} (h : Ph R) : R 169 15 = 176 := h.1 (169, 15, 176) (List.mem_of_getElem? (i := 158) (by decide +kernel))
theorem fiX10_205 : FI RX10 205 10 17 0 := ⟨RX10, TX10, 54, rfl, by decide, (mem_t5 70 (by decide +kernel)), uwsX10, rfl⟩
theorem ln_176 : ln 176 = 80 := by decide +kernel
theorem ad_176 : (176 : Nat) ≠ 0 ∧ 176 ≤ 205 ∧ (sh 176).1 = 0 := by decide +kernel
theorem fpX10_205 : FP RX10 205 10 17 0 false .int := ⟨RX10, TX10, 54, tyX10, rfl, by decide, (mem_t5 70 (by decide +kernel)), uwsX10, rfl, tyX10_ok, nmX10, rfl, rfl⟩
theorem cvX10_217 : CV RX10 217 yX10_takesOf cX10_takesOf 3 (some .int) 1 := ⟨(mem_t6 46 (by decide +kernel)), (mem_t6 48 (by decide +kernel)), (mem_g 52 (by decide +kernel) (by decide +kernel)), (mem_t1 11 (by decide +kernel)), (mem_t6 49 (by decide +kernel)), ⟨by decide +kernel, by decide +kernel, by decide +kernel⟩, by decide⟩
theorem fiX10_141 : FI RX10 141 10 11 0 := ⟨RX10, TX10, 54, rfl, by decide, (mem_t5 64 (by decide +kernel)), uwsX10, rfl⟩
theorem cvX10_221 : CV RX10 221 yX10_readsRank cX10_readsRank 4 (some .boolean) 1 := ⟨(mem_t6 33 (by decide +kernel)), (mem_t6 35 (by decide +kernel)), (mem_g 49 (by decide +kernel) (by decide +kernel)), (mem_t1 11 (by decide +kernel)), (mem_t6 36 (by decide +kernel)), ⟨by decide +kernel, by decide +kernel, by decide +kernel⟩, by decide⟩
theorem cvX10_211 : CV RX10 211 yX10_codes cX10_codes 2 none 1 := ⟨(mem_t6 41 (by decide +kernel)), (mem_t6 43 (by decide +kernel)), (mem_g 51 (by decide +kernel) (by decide +kernel)), (mem_t1 11 (by decide +kernel)), (mem_t6 44 (by decide +kernel)), ⟨by decide +kernel, by decide +kernel, by decide +kernel⟩, by decide⟩
theorem cvX10_208 : CV RX10 208 yX10_readsThing cX10_readsThing 2 (some .boolean) 0 := ⟨(mem_t6 37 (by decide +kernel)), (mem_t6 39 (by decide +kernel)), (mem_g 50 (by decide +kernel) (by decide +kernel)), (mem_t1 11 (by decide +kernel)), (mem_t6 40 (by decide +kernel)), ⟨by decide +kernel, by decide +kernel, by decide +kernel⟩, by decide⟩
theorem fpX10_230 : FP RX10 230 10 16 0 false .int := ⟨RX10, TX10, 54, tyX10, rfl, by decide, (mem_t5 69 (by decide +kernel)), uwsX10, rfl, tyX10_ok, nmX10, rfl, rfl⟩
theorem fiX10_37 : FI RX10 37 10 14 1 := ⟨RX10, TX10, 54, rfl, by decide, (mem_t5 67 (by decide +kernel)), uwsX10, rfl⟩
theorem fn_169_14 {R : Nat → Nat → Nat} (h : Ph R) : R 169 14 = 175 := h.1 (169, 14, 175) (List.mem_of_getElem? (i := 157) (by decide +kernel))
theorem ln_175 : ln 175 = 80 := by decide +kernel
theorem ad_175 : (175 : Nat) ≠ 0 ∧ 175 ≤ 205 ∧ (sh 175).1 = 0 := by decide +kernel
theorem cvX10_233 : CV RX10 233 yX10_readsRule cX10_readsRule 3 (some .int) 0 := ⟨(mem_t6 29 (by decide +kernel)), (mem_t6 31 (by decide +kernel)), (mem_g 48 (by decide +kernel) (by decide +kernel)), (mem_t1 11 (by decide +kernel)), (mem_t6 32 (by decide +kernel)), ⟨by decide +kernel, by decide +kernel, by decide +kernel⟩, by decide⟩
theorem cvX10_236 : CV RX10 236 yX10_laysCode cX10_laysCode 4 none 2 := ⟨(mem_t6 101 (by decide +kernel)), (mem_t6 103 (by decide +kernel)), (mem_g 53 (by decide +kernel) (by decide +kernel)), (mem_t1 11 (by decide +kernel)), (mem_t6 104 (by decide +kernel)), ⟨by decide +kernel, by decide +kernel, by decide +kernel⟩, by decide⟩
theorem fiX10_230 : FI RX10 230 10 16 0 := ⟨RX10, TX10, 54, rfl, by decide, (mem_t5 69 (by decide +kernel)), uwsX10, rfl⟩
theorem fiX10_43 : FI RX10 43 10 18 1 := ⟨RX10, TX10, 54, rfl, by decide, (mem_t5 71 (by decide +kernel)), uwsX10, rfl⟩
theorem fn_169_18 {R : Nat → Nat → Nat} (h : Ph R) : R 169 18 = 177 := h.1 (169, 18, 177) (List.mem_of_getElem? (i := 159) (by decide +kernel))
theorem ln_177 : ln 177 = 80 := by decide +kernel
theorem ad_177 : (177 : Nat) ≠ 0 ∧ 177 ≤ 205 ∧ (sh 177).1 = 0 := by decide +kernel
theorem fiX10_46 : FI RX10 46 10 19 1 := ⟨RX10, TX10, 54, rfl, by decide, (mem_t5 72 (by decide +kernel)), uwsX10, rfl⟩
theorem fn_169_19 {R : Nat → Nat → Nat} (h : Ph R) : R 169 19 = 178 := h.1 (169, 19, 178) (List.mem_of_getElem? (i := 160) (by decide +kernel))
theorem ln_178 : ln 178 = 7 := by decide +kernel
theorem ad_178 : (178 : Nat) ≠ 0 ∧ 178 ≤ 205 ∧ (sh 178).1 = 0 := by decide +kernel
theorem csX10_240 : CS RX10 240 yX10_worked cX10_worked 3 (some .int) 3 := ⟨(mem_t6 149 (by decide +kernel)), (mem_t6 150 (by decide +kernel)), (mem_t1 11 (by decide +kernel)), (mem_t6 151 (by decide +kernel)), ⟨by decide +kernel, by decide +kernel, by decide +kernel⟩, by decide⟩
theorem fiX10_244 : FI RX10 244 10 23 0 := ⟨RX10, TX10, 54, rfl, by decide, (mem_t5 76 (by decide +kernel)), uwsX10, rfl⟩
theorem fiX10_49 : FI RX10 49 10 20 1 := ⟨RX10, TX10, 54, rfl, by decide, (mem_t5 73 (by decide +kernel)), uwsX10, rfl⟩
theorem fn_169_20 {R : Nat → Nat → Nat} (h : Ph R) : R 169 20 = 179 := h.1 (169, 20, 179) (List.mem_of_getElem? (i := 161) (by decide +kernel))
theorem ln_179 : ln 179 = 6 := by decide +kernel
theorem ad_179 : (179 : Nat) ≠ 0 ∧ 179 ≤ 205 ∧ (sh 179).1 = 0 := by decide +kernel
theorem csX10_247 : CS RX10 247 yX10_has cX10_has 2 (some .boolean) 2 := ⟨(mem_t6 138 (by decide +kernel)), (mem_t6 139 (by decide +kernel)), (mem_t1 11 (by decide +kernel)), (mem_t6 140 (by decide +kernel)), ⟨by decide +kernel, by decide +kernel, by decide +kernel⟩, by decide⟩
theorem cvX10_251 : CV RX10 251 yX10_nextPlace cX10_nextPlace 4 (some .int) 2 := ⟨(mem_t6 134 (by decide +kernel)), (mem_t6 136 (by decide +kernel)), (mem_g 60 (by decide +kernel) (by decide +kernel)), (mem_t1 11 (by decide +kernel)), (mem_t6 137 (by decide +kernel)), ⟨by decide +kernel, by decide +kernel, by decide +kernel⟩, by decide⟩
theorem fiX10_52 : FI RX10 52 10 21 1 := ⟨RX10, TX10, 54, rfl, by decide, (mem_t5 74 (by decide +kernel)), uwsX10, rfl⟩
theorem fn_169_21 {R : Nat → Nat → Nat} (h : Ph R) : R 169 21 = 180 := h.1 (169, 21, 180) (List.mem_of_getElem? (i := 162) (by decide +kernel))
theorem ln_180 : ln 180 = 6 := by decide +kernel
theorem ad_180 : (180 : Nat) ≠ 0 ∧ 180 ≤ 205 ∧ (sh 180).1 = 0 := by decide +kernel
theorem fpX10_244 : FP RX10 244 10 23 0 false .int := ⟨RX10, TX10, 54, tyX10, rfl, by decide, (mem_t5 76 (by decide +kernel)), uwsX10, rfl, tyX10_ok, nmX10, rfl, rfl⟩
theorem fpX10_254 : FP RX10 254 10 27 0 false .int := ⟨RX10, TX10, 54, tyX10, rfl, by decide, (mem_t5 80 (by decide +kernel)), uwsX10, rfl, tyX10_ok, nmX10, rfl, rfl⟩
theorem cvX10_257 : CV RX10 257 yX10_boatOn cX10_boatOn 4 (some .int) 2 := ⟨(mem_t6 126 (by decide +kernel)), (mem_t6 128 (by decide +kernel)), (mem_g 58 (by decide +kernel) (by decide +kernel)), (mem_t1 11 (by decide +kernel)), (mem_t6 129 (by decide +kernel)), ⟨by decide +kernel, by decide +kernel, by decide +kernel⟩, by decide⟩
theorem cvX10_261 : CV RX10 261 yX10_behind cX10_behind 3 (some .int) 1 := ⟨(mem_t6 141 (by decide +kernel)), (mem_t6 143 (by decide +kernel)), (mem_g 61 (by decide +kernel) (by decide +kernel)), (mem_t1 11 (by decide +kernel)), (mem_t6 144 (by decide +kernel)), ⟨by decide +kernel, by decide +kernel, by decide +kernel⟩, by decide⟩
theorem fiX10_55 : FI RX10 55 10 22 1 := ⟨RX10, TX10, 54, rfl, by decide, (mem_t5 75 (by decide +kernel)), uwsX10, rfl⟩
theorem fn_169_22 {R : Nat → Nat → Nat} (h : Ph R) : R 169 22 = 181 := h.1 (169, 22, 181) (List.mem_of_getElem? (i := 163) (by decide +kernel))
theorem ln_181 : ln 181 = 6 := by decide +kernel
theorem ad_181 : (181 : Nat) ≠ 0 ∧ 181 ≤ 205 ∧ (sh 181).1 = 0 := by decide +kernel
theorem cvX10_264 : CV RX10 264 yX10_ruled cX10_ruled 4 (some .int) 0 := ⟨(mem_t6 145 (by decide +kernel)), (mem_t6 147 (by decide +kernel)), (mem_g 62 (by decide +kernel) (by decide +kernel)), (mem_t1 11 (by decide +kernel)), (mem_t6 148 (by decide +kernel)), ⟨by decide +kernel, by decide +kernel, by decide +kernel⟩, by decide⟩
theorem mmX10_267 : MM RX10 267 Lib.Math.max.name Lib.Math.max.code 2 := ⟨(mem_t6 152 (by decide +kernel)), (mem_t2 195 (by decide +kernel)), (mem_t1 12 (by decide +kernel)), (mem_t2 196 (by decide +kernel))⟩
theorem fiX10_58 : FI RX10 58 10 24 1 := ⟨RX10, TX10, 54, rfl, by decide, (mem_t5 77 (by decide +kernel)), uwsX10, rfl⟩
theorem fn_169_24 {R : Nat → Nat → Nat} (h : Ph R) : R 169 24 = 182 := h.1 (169, 24, 182) (List.mem_of_getElem? (i := 164) (by decide +kernel))
theorem fiX10_254 : FI RX10 254 10 27 0 := ⟨RX10, TX10, 54, rfl, by decide, (mem_t5 80 (by decide +kernel)), uwsX10, rfl⟩
theorem ln_182 : ln 182 = 6 := by decide +kernel
theorem ad_182 : (182 : Nat) ≠ 0 ∧ 182 ≤ 205 ∧ (sh 182).1 = 0 := by decide +kernel
theorem fiX10_61 : FI RX10 61 10 25 1 := ⟨RX10, TX10, 54, rfl, by decide, (mem_t5 78 (by decide +kernel)), uwsX10, rfl⟩
theorem fn_169_25 {R : Nat → Nat → Nat} (h : Ph R) : R 169 25 = 183 := h.1 (169, 25, 183) (List.mem_of_getElem? (i := 165) (by decide +kernel))
theorem ln_183 : ln 183 = 6 := by decide +kernel
theorem ad_183 : (183 : Nat) ≠ 0 ∧ 183 ≤ 205 ∧ (sh 183).1 = 0 := by decide +kernel
theorem fiX10_64 : FI RX10 64 10 26 1 := ⟨RX10, TX10, 54, rfl, by decide, (mem_t5 79 (by decide +kernel)), uwsX10, rfl⟩
theorem fn_169_26 {R : Nat → Nat → Nat} (h : Ph R) : R 169 26 = 184 := h.1 (169, 26, 184) (List.mem_of_getElem? (i := 166) (by decide +kernel))
theorem ln_184 : ln 184 = 6 := by decide +kernel
theorem ad_184 : (184 : Nat) ≠ 0 ∧ 184 ≤ 205 ∧ (sh 184).1 = 0 := by decide +kernel
theorem cvX10_270 : CV RX10 270 yX10_laysRace cX10_laysRace 3 none 1 := ⟨(mem_t6 122 (by decide +kernel)), (mem_t6 124 (by decide +kernel)), (mem_g 57 (by decide +kernel) (by decide +kernel)), (mem_t1 11 (by decide +kernel)), (mem_t6 125 (by decide +kernel)), ⟨by decide +kernel, by decide +kernel, by decide +kernel⟩, by decide⟩
theorem cvX10_274 : CV RX10 274 yX10_strokeGoes cX10_strokeGoes 6 none 2 := ⟨(mem_t6 130 (by decide +kernel)), (mem_t6 132 (by decide +kernel)), (mem_g 59 (by decide +kernel) (by decide +kernel)), (mem_t1 11 (by decide +kernel)), (mem_t6 133 (by decide +kernel)), ⟨by decide +kernel, by decide +kernel, by decide +kernel⟩, by decide⟩
theorem cvX10_277 : CV RX10 277 yX10_isBoat cX10_isBoat 2 (some .boolean) 1 := ⟨(mem_t6 109 (by decide +kernel)), (mem_t6 111 (by decide +kernel)), (mem_g 54 (by decide +kernel) (by decide +kernel)), (mem_t1 11 (by decide +kernel)), (mem_t6 112 (by decide +kernel)), ⟨by decide +kernel, by decide +kernel, by decide +kernel⟩, by decide⟩
theorem klX10_280 : Cond.constantLong RX10 280 5 ∈ gtbl := (mem_t6 113 (by decide +kernel))
theorem cvX10_285 : CV RX10 285 yX10_races cX10_races 4 none 2 := ⟨(mem_t6 118 (by decide +kernel)), (mem_t6 120 (by decide +kernel)), (mem_g 56 (by decide +kernel) (by decide +kernel)), (mem_t1 11 (by decide +kernel)), (mem_t6 121 (by decide +kernel)), ⟨by decide +kernel, by decide +kernel, by decide +kernel⟩, by decide⟩
theorem cvX10_288 : CV RX10 288 yX10_touchOf cX10_touchOf 3 (some .int) 1 := ⟨(mem_t6 153 (by decide +kernel)), (mem_t6 155 (by decide +kernel)), (mem_g 63 (by decide +kernel) (by decide +kernel)), (mem_t1 11 (by decide +kernel)), (mem_t6 156 (by decide +kernel)), ⟨by decide +kernel, by decide +kernel, by decide +kernel⟩, by decide⟩
theorem cvX10_291 : CV RX10 291 yX10_touchedBy cX10_touchedBy 3 (some .int) 1 := ⟨(mem_t6 157 (by decide +kernel)), (mem_t6 159 (by decide +kernel)), (mem_g 64 (by decide +kernel) (by decide +kernel)), (mem_t1 11 (by decide +kernel)), (mem_t6 160 (by decide +kernel)), ⟨by decide +kernel, by decide +kernel, by decide +kernel⟩, by decide⟩
theorem cvX10_282 : CV RX10 282 yX10_refuse cX10_refuse 1 (some .int) 0 := ⟨(mem_t6 114 (by decide +kernel)), (mem_t6 116 (by decide +kernel)), (mem_g 55 (by decide +kernel) (by decide +kernel)), (mem_t1 11 (by decide +kernel)), (mem_t6 117 (by decide +kernel)), ⟨by decide +kernel, by decide +kernel, by decide +kernel⟩, by decide⟩
theorem klX10_294 : Cond.constantLong RX10 294 3 ∈ gtbl := (mem_t6 169 (by decide +kernel))
theorem cvX10_296 : CV RX10 296 yX10_sumOf cX10_sumOf 5 (some .int) 2 := ⟨(mem_t6 170 (by decide +kernel)), (mem_t6 172 (by decide +kernel)), (mem_g 65 (by decide +kernel) (by decide +kernel)), (mem_t1 11 (by decide +kernel)), (mem_t6 173 (by decide +kernel)), ⟨by decide +kernel, by decide +kernel, by decide +kernel⟩, by decide⟩
theorem fiX10_67 : FI RX10 67 10 29 1 := ⟨RX10, TX10, 54, rfl, by decide, (mem_t5 82 (by decide +kernel)), uwsX10, rfl⟩
theorem fn_169_29 {R : Nat → Nat → Nat} (h : Ph R) : R 169 29 = 185 := h.1 (169, 29, 185) (List.mem_of_getElem? (i := 167) (by decide +kernel))
theorem ln_185 : ln 185 = 352 := by decide +kernel
theorem ad_185 : (185 : Nat) ≠ 0 ∧ 185 ≤ 205 ∧ (sh 185).1 = 0 := by decide +kernel
theorem cvX10_299 : CV RX10 299 yX10_adds cX10_adds 3 (some .int) 1 := ⟨(mem_t6 199 (by decide +kernel)), (mem_t6 201 (by decide +kernel)), (mem_g 70 (by decide +kernel) (by decide +kernel)), (mem_t1 11 (by decide +kernel)), (mem_t6 202 (by decide +kernel)), ⟨by decide +kernel, by decide +kernel, by decide +kernel⟩, by decide⟩
theorem fiX10_302 : FI RX10 302 10 30 0 := ⟨RX10, TX10, 54, rfl, by decide, (mem_t5 83 (by decide +kernel)), uwsX10, rfl⟩
theorem fpX10_302 : FP RX10 302 10 30 0 false .int := ⟨RX10, TX10, 54, tyX10, rfl, by decide, (mem_t5 83 (by decide +kernel)), uwsX10, rfl, tyX10_ok, nmX10, rfl, rfl⟩
theorem cvX10_305 : CV RX10 305 yX10_dayGoes cX10_dayGoes 4 none 1 := ⟨(mem_t6 191 (by decide +kernel)), (mem_t6 193 (by decide +kernel)), (mem_g 68 (by decide +kernel) (by decide +kernel)), (mem_t1 11 (by decide +kernel)), (mem_t6 194 (by decide +kernel)), ⟨by decide +kernel, by decide +kernel, by decide +kernel⟩, by decide⟩
theorem klX10_308 : Cond.constantLong RX10 308 60 ∈ gtbl := (mem_t6 182 (by decide +kernel))
theorem cvX10_310 : CV RX10 310 yX10_putsBy cX10_putsBy 2 none 0 := ⟨(mem_t6 183 (by decide +kernel)), (mem_t6 185 (by decide +kernel)), (mem_g 66 (by decide +kernel) (by decide +kernel)), (mem_t1 11 (by decide +kernel)), (mem_t6 186 (by decide +kernel)), ⟨by decide +kernel, by decide +kernel, by decide +kernel⟩, by decide⟩
theorem cvX10_313 : CV RX10 313 yX10_goesOn cX10_goesOn 4 none 2 := ⟨(mem_t6 187 (by decide +kernel)), (mem_t6 189 (by decide +kernel)), (mem_g 67 (by decide +kernel) (by decide +kernel)), (mem_t1 11 (by decide +kernel)), (mem_t6 190 (by decide +kernel)), ⟨by decide +kernel, by decide +kernel, by decide +kernel⟩, by decide⟩
theorem cvX10_316 : CV RX10 316 yX10_enters cX10_enters 3 none 1 := ⟨(mem_t6 195 (by decide +kernel)), (mem_t6 197 (by decide +kernel)), (mem_g 69 (by decide +kernel) (by decide +kernel)), (mem_t1 11 (by decide +kernel)), (mem_t6 198 (by decide +kernel)), ⟨by decide +kernel, by decide +kernel, by decide +kernel⟩, by decide⟩
theorem cvX10_320 : CV RX10 320 yX10_becomes cX10_becomes 5 (some .int) 3 := ⟨(mem_t6 223 (by decide +kernel)), (mem_t6 225 (by decide +kernel)), (mem_g 74 (by decide +kernel) (by decide +kernel)), (mem_t1 11 (by decide +kernel)), (mem_t6 226 (by decide +kernel)), ⟨by decide +kernel, by decide +kernel, by decide +kernel⟩, by decide⟩
theorem klX10_323 : Cond.constantLong RX10 323 9 ∈ gtbl := (mem_t6 235 (by decide +kernel))
theorem cvX10_325 : CV RX10 325 yX10_scratchesOne cX10_scratchesOne 5 (some .int) 2 := ⟨(mem_t6 207 (by decide +kernel)), (mem_t6 209 (by decide +kernel)), (mem_g 71 (by decide +kernel) (by decide +kernel)), (mem_t1 11 (by decide +kernel)), (mem_t6 210 (by decide +kernel)), ⟨by decide +kernel, by decide +kernel, by decide +kernel⟩, by decide⟩
theorem cvX10_328 : CV RX10 328 yX10_counted cX10_counted 2 (some .int) 1 := ⟨(mem_t6 211 (by decide +kernel)), (mem_t6 213 (by decide +kernel)), (mem_g 72 (by decide +kernel) (by decide +kernel)), (mem_t1 11 (by decide +kernel)), (mem_t6 214 (by decide +kernel)), ⟨by decide +kernel, by decide +kernel, by decide +kernel⟩, by decide⟩
theorem cvX10_331 : CV RX10 331 yX10_restsOne cX10_restsOne 2 (some .int) 1 := ⟨(mem_t6 219 (by decide +kernel)), (mem_t6 221 (by decide +kernel)), (mem_g 73 (by decide +kernel) (by decide +kernel)), (mem_t1 11 (by decide +kernel)), (mem_t6 222 (by decide +kernel)), ⟨by decide +kernel, by decide +kernel, by decide +kernel⟩, by decide⟩
theorem cvX10_334 : CV RX10 334 yX10_pacesOne cX10_pacesOne 3 (some .int) 2 := ⟨(mem_t6 231 (by decide +kernel)), (mem_t6 233 (by decide +kernel)), (mem_g 75 (by decide +kernel) (by decide +kernel)), (mem_t1 11 (by decide +kernel)), (mem_t6 234 (by decide +kernel)), ⟨by decide +kernel, by decide +kernel, by decide +kernel⟩, by decide⟩
theorem klX10_337 : Cond.constantLong RX10 337 30 ∈ gtbl := (mem_t7 0 (by decide +kernel))
theorem klX10_339 : Cond.constantLong RX10 339 40 ∈ gtbl := (mem_t7 5 (by decide +kernel))
theorem fiX10_341 : FI RX10 341 10 34 0 := ⟨RX10, TX10, 54, rfl, by decide, (mem_t5 87 (by decide +kernel)), uwsX10, rfl⟩
theorem fiX10_70 : FI RX10 70 10 31 1 := ⟨RX10, TX10, 54, rfl, by decide, (mem_t5 84 (by decide +kernel)), uwsX10, rfl⟩
theorem fn_169_31 {R : Nat → Nat → Nat} (h : Ph R) : R 169 31 = 186 := h.1 (169, 31, 186) (List.mem_of_getElem? (i := 168) (by decide +kernel))
theorem ln_186 : ln 186 = 60 := by decide +kernel
theorem ad_186 : (186 : Nat) ≠ 0 ∧ 186 ≤ 205 ∧ (sh 186).1 = 0 := by decide +kernel
theorem fpX10_341 : FP RX10 341 10 34 0 false .int := ⟨RX10, TX10, 54, tyX10, rfl, by decide, (mem_t5 87 (by decide +kernel)), uwsX10, rfl, tyX10_ok, nmX10, rfl, rfl⟩
theorem fiX10_73 : FI RX10 73 10 32 1 := ⟨RX10, TX10, 54, rfl, by decide, (mem_t5 85 (by decide +kernel)), uwsX10, rfl⟩
theorem fn_169_32 {R : Nat → Nat → Nat} (h : Ph R) : R 169 32 = 187 := h.1 (169, 32, 187) (List.mem_of_getElem? (i := 169) (by decide +kernel))
theorem ln_187 : ln 187 = 60 := by decide +kernel
theorem ad_187 : (187 : Nat) ≠ 0 ∧ 187 ≤ 205 ∧ (sh 187).1 = 0 := by decide +kernel
theorem fiX10_76 : FI RX10 76 10 33 1 := ⟨RX10, TX10, 54, rfl, by decide, (mem_t5 86 (by decide +kernel)), uwsX10, rfl⟩
theorem fn_169_33 {R : Nat → Nat → Nat} (h : Ph R) : R 169 33 = 188 := h.1 (169, 33, 188) (List.mem_of_getElem? (i := 170) (by decide +kernel))
theorem ln_188 : ln 188 = 60 := by decide +kernel
theorem ad_188 : (188 : Nat) ≠ 0 ∧ 188 ≤ 205 ∧ (sh 188).1 = 0 := by decide +kernel
theorem cvX10_346 : CV RX10 346 yX10_readsAct cX10_readsAct 2 (some .boolean) 0 := ⟨(mem_t7 10 (by decide +kernel)), (mem_t7 12 (by decide +kernel)), (mem_g 76 (by decide +kernel) (by decide +kernel)), (mem_t1 11 (by decide +kernel)), (mem_t7 13 (by decide +kernel)), ⟨by decide +kernel, by decide +kernel, by decide +kernel⟩, by decide⟩
theorem cvX10_349 : CV RX10 349 yX10_does cX10_does 5 (some .boolean) 1 := ⟨(mem_t7 15 (by decide +kernel)), (mem_t7 17 (by decide +kernel)), (mem_g 77 (by decide +kernel) (by decide +kernel)), (mem_t1 11 (by decide +kernel)), (mem_t7 18 (by decide +kernel)), ⟨by decide +kernel, by decide +kernel, by decide +kernel⟩, by decide⟩
theorem fiX10_28 : FI RX10 28 10 6 1 := ⟨RX10, TX10, 54, rfl, by decide, (mem_t5 59 (by decide +kernel)), uwsX10, rfl⟩
theorem fn_169_6 {R : Nat → Nat → Nat} (h : Ph R) : R 169 6 = 172 := h.1 (169, 6, 172) (List.mem_of_getElem? (i := 154) (by decide +kernel))
theorem ln_172 : ln 172 = 22 := by decide +kernel
theorem ad_172 : (172 : Nat) ≠ 0 ∧ 172 ≤ 205 ∧ (sh 172).1 = 0 := by decide +kernel
theorem cvX10_352 : CV RX10 352 yX10_touchers cX10_touchers 4 (some .int) 1 := ⟨(mem_t7 31 (by decide +kernel)), (mem_t7 33 (by decide +kernel)), (mem_g 78 (by decide +kernel) (by decide +kernel)), (mem_t1 11 (by decide +kernel)), (mem_t7 34 (by decide +kernel)), ⟨by decide +kernel, by decide +kernel, by decide +kernel⟩, by decide⟩
theorem kcX10_355 : Cond.constant RX10 355 1000000 ∈ gtbl := (mem_t7 39 (by decide +kernel))
theorem cvX10_356 : CV RX10 356 yX10_copies cX10_copies 2 none 0 := ⟨(mem_t7 44 (by decide +kernel)), (mem_t7 46 (by decide +kernel)), (mem_g 79 (by decide +kernel) (by decide +kernel)), (mem_t1 11 (by decide +kernel)), (mem_t7 47 (by decide +kernel)), ⟨by decide +kernel, by decide +kernel, by decide +kernel⟩, by decide⟩
theorem csX10_359 : CS RX10 359 yX10_many cX10_many 1 (some .int) 1 := ⟨(mem_t7 72 (by decide +kernel)), (mem_t7 73 (by decide +kernel)), (mem_t1 11 (by decide +kernel)), (mem_t7 74 (by decide +kernel)), ⟨by decide +kernel, by decide +kernel, by decide +kernel⟩, by decide⟩
theorem fiX10_79 : FI RX10 79 10 35 1 := ⟨RX10, TX10, 54, rfl, by decide, (mem_t5 88 (by decide +kernel)), uwsX10, rfl⟩
theorem fn_169_35 {R : Nat → Nat → Nat} (h : Ph R) : R 169 35 = 189 := h.1 (169, 35, 189) (List.mem_of_getElem? (i := 171) (by decide +kernel))
theorem ad_189 : (189 : Nat) ≠ 0 ∧ 189 ≤ 205 ∧ (sh 189).1 = 0 := by decide +kernel
theorem cvX10_362 : CV RX10 362 yX10_laysStanding cX10_laysStanding 4 none 2 := ⟨(mem_t7 64 (by decide +kernel)), (mem_t7 66 (by decide +kernel)), (mem_g 80 (by decide +kernel) (by decide +kernel)), (mem_t1 11 (by decide +kernel)), (mem_t7 67 (by decide +kernel)), ⟨by decide +kernel, by decide +kernel, by decide +kernel⟩, by decide⟩
theorem cvX10_366 : CV RX10 366 yX10_numberOf cX10_numberOf 6 (some .int) 1 := ⟨(mem_t7 68 (by decide +kernel)), (mem_t7 70 (by decide +kernel)), (mem_g 81 (by decide +kernel) (by decide +kernel)), (mem_t1 11 (by decide +kernel)), (mem_t7 71 (by decide +kernel)), ⟨by decide +kernel, by decide +kernel, by decide +kernel⟩, by decide⟩
theorem fiX10_85 : FI RX10 85 10 37 1 := ⟨RX10, TX10, 54, rfl, by decide, (mem_t5 90 (by decide +kernel)), uwsX10, rfl⟩
theorem fn_169_37 {R : Nat → Nat → Nat} (h : Ph R) : R 169 37 = 191 := h.1 (169, 37, 191) (List.mem_of_getElem? (i := 173) (by decide +kernel))
theorem ln_191 : ln 191 = 720 := by decide +kernel
theorem ad_191 : (191 : Nat) ≠ 0 ∧ 191 ≤ 205 ∧ (sh 191).1 = 1 := by decide +kernel
theorem fiX10_92 : FI RX10 92 10 39 1 := ⟨RX10, TX10, 54, rfl, by decide, (mem_t5 92 (by decide +kernel)), uwsX10, rfl⟩
theorem fn_169_39 {R : Nat → Nat → Nat} (h : Ph R) : R 169 39 = 193 := h.1 (169, 39, 193) (List.mem_of_getElem? (i := 175) (by decide +kernel))
theorem ln_193 : ln 193 = 6 := by decide +kernel
theorem ad_193 : (193 : Nat) ≠ 0 ∧ 193 ≤ 205 ∧ (sh 193).1 = 0 := by decide +kernel
theorem cvX10_377 : CV RX10 377 yX10_pairsFrom cX10_pairsFrom 3 none 1 := ⟨(mem_t7 83 (by decide +kernel)), (mem_t7 85 (by decide +kernel)), (mem_g 83 (by decide +kernel) (by decide +kernel)), (mem_t1 11 (by decide +kernel)), (mem_t7 86 (by decide +kernel)), ⟨by decide +kernel, by decide +kernel, by decide +kernel⟩, by decide⟩
theorem cvX10_370 : CV RX10 370 yX10_isLawful cX10_isLawful 5 (some .boolean) 1 := ⟨(mem_t7 87 (by decide +kernel)), (mem_t7 89 (by decide +kernel)), (mem_g 84 (by decide +kernel) (by decide +kernel)), (mem_t1 11 (by decide +kernel)), (mem_t7 90 (by decide +kernel)), ⟨by decide +kernel, by decide +kernel, by decide +kernel⟩, by decide⟩
theorem fiX10_374 : FI RX10 374 10 40 0 := ⟨RX10, TX10, 54, rfl, by decide, (mem_t5 93 (by decide +kernel)), uwsX10, rfl⟩
theorem fpX10_374 : FP RX10 374 10 40 0 false .int := ⟨RX10, TX10, 54, tyX10, rfl, by decide, (mem_t5 93 (by decide +kernel)), uwsX10, rfl, tyX10_ok, nmX10, rfl, rfl⟩
theorem fiX10_89 : FI RX10 89 10 38 1 := ⟨RX10, TX10, 54, rfl, by decide, (mem_t5 91 (by decide +kernel)), uwsX10, rfl⟩
theorem fn_169_38 {R : Nat → Nat → Nat} (h : Ph R) : R 169 38 = 192 := h.1 (169, 38, 192) (List.mem_of_getElem? (i := 174) (by decide +kernel))
theorem ln_192 : ln 192 = 120 := by decide +kernel
theorem ad_192 : (192 : Nat) ≠ 0 ∧ 192 ≤ 205 ∧ (sh 192).1 = 0 := by decide +kernel
theorem cvX10_380 : CV RX10 380 yX10_laysSets cX10_laysSets 2 none 0 := ⟨(mem_t7 79 (by decide +kernel)), (mem_t7 81 (by decide +kernel)), (mem_g 82 (by decide +kernel) (by decide +kernel)), (mem_t1 11 (by decide +kernel)), (mem_t7 82 (by decide +kernel)), ⟨by decide +kernel, by decide +kernel, by decide +kernel⟩, by decide⟩
theorem cvX10_383 : CV RX10 383 yX10_pairsOf cX10_pairsOf 4 (some .int) 1 := ⟨(mem_t7 91 (by decide +kernel)), (mem_t7 93 (by decide +kernel)), (mem_g 85 (by decide +kernel) (by decide +kernel)), (mem_t1 11 (by decide +kernel)), (mem_t7 94 (by decide +kernel)), ⟨by decide +kernel, by decide +kernel, by decide +kernel⟩, by decide⟩
theorem fiX10_98 : FI RX10 98 10 42 1 := ⟨RX10, TX10, 54, rfl, by decide, (mem_t5 95 (by decide +kernel)), uwsX10, rfl⟩
theorem fn_169_42 {R : Nat → Nat → Nat} (h : Ph R) : R 169 42 = 195 := h.1 (169, 42, 195) (List.mem_of_getElem? (i := 177) (by decide +kernel))
theorem ln_195 : ln 195 = 720 := by decide +kernel
theorem ad_195 : (195 : Nat) ≠ 0 ∧ 195 ≤ 205 ∧ (sh 195).1 = 0 := by decide +kernel
theorem fiX10_95 : FI RX10 95 10 41 1 := ⟨RX10, TX10, 54, rfl, by decide, (mem_t5 94 (by decide +kernel)), uwsX10, rfl⟩
theorem fn_169_41 {R : Nat → Nat → Nat} (h : Ph R) : R 169 41 = 194 := h.1 (169, 41, 194) (List.mem_of_getElem? (i := 176) (by decide +kernel))
theorem ln_194 : ln 194 = 720 := by decide +kernel
theorem ad_194 : (194 : Nat) ≠ 0 ∧ 194 ≤ 205 ∧ (sh 194).1 = 0 := by decide +kernel
theorem cvX10_386 : CV RX10 386 yX10_laysOrder cX10_laysOrder 8 none 2 := ⟨(mem_t7 104 (by decide +kernel)), (mem_t7 106 (by decide +kernel)), (mem_g 87 (by decide +kernel) (by decide +kernel)), (mem_t1 11 (by decide +kernel)), (mem_t7 107 (by decide +kernel)), ⟨by decide +kernel, by decide +kernel, by decide +kernel⟩, by decide⟩
theorem fiX10_82 : FI RX10 82 10 36 1 := ⟨RX10, TX10, 54, rfl, by decide, (mem_t5 89 (by decide +kernel)), uwsX10, rfl⟩
theorem fn_169_36 {R : Nat → Nat → Nat} (h : Ph R) : R 169 36 = 190 := h.1 (169, 36, 190) (List.mem_of_getElem? (i := 172) (by decide +kernel))
theorem ad_190 : (190 : Nat) ≠ 0 ∧ 190 ≤ 205 ∧ (sh 190).1 = 0 := by decide +kernel
theorem ln_189 : ln 189 = 6 := by decide +kernel
theorem ln_190 : ln 190 = 6 := by decide +kernel
theorem klX10_389 : Cond.constantLong RX10 389 6 ∈ gtbl := (mem_t7 99 (by decide +kernel))
theorem cvX10_391 : CV RX10 391 yX10_laysSoon cX10_laysSoon 5 none 0 := ⟨(mem_t7 100 (by decide +kernel)), (mem_t7 102 (by decide +kernel)), (mem_g 86 (by decide +kernel) (by decide +kernel)), (mem_t1 11 (by decide +kernel)), (mem_t7 103 (by decide +kernel)), ⟨by decide +kernel, by decide +kernel, by decide +kernel⟩, by decide⟩
theorem cvX10_394 : CV RX10 394 yX10_readsOrder cX10_readsOrder 5 (some .boolean) 1 := ⟨(mem_t7 116 (by decide +kernel)), (mem_t7 118 (by decide +kernel)), (mem_g 88 (by decide +kernel) (by decide +kernel)), (mem_t1 11 (by decide +kernel)), (mem_t7 119 (by decide +kernel)), ⟨by decide +kernel, by decide +kernel, by decide +kernel⟩, by decide⟩
theorem csX10_397 : CS RX10 397 yX10_placeIn cX10_placeIn 3 (some .int) 2 := ⟨(mem_t7 124 (by decide +kernel)), (mem_t7 125 (by decide +kernel)), (mem_t1 11 (by decide +kernel)), (mem_t7 126 (by decide +kernel)), ⟨by decide +kernel, by decide +kernel, by decide +kernel⟩, by decide⟩
theorem mmX10_400 : MM RX10 400 Lib.Math.abs.name Lib.Math.abs.code 1 := ⟨(mem_t7 127 (by decide +kernel)), (mem_t4 45 (by decide +kernel)), (mem_t1 12 (by decide +kernel)), (mem_t4 46 (by decide +kernel))⟩
theorem fiX10_101 : FI RX10 101 10 43 1 := ⟨RX10, TX10, 54, rfl, by decide, (mem_t5 96 (by decide +kernel)), uwsX10, rfl⟩
theorem fn_169_43 {R : Nat → Nat → Nat} (h : Ph R) : R 169 43 = 196 := h.1 (169, 43, 196) (List.mem_of_getElem? (i := 178) (by decide +kernel))
theorem ln_196 : ln 196 = 480 := by decide +kernel
theorem ad_196 : (196 : Nat) ≠ 0 ∧ 196 ≤ 205 ∧ (sh 196).1 = 0 := by decide +kernel
theorem cvX10_403 : CV RX10 403 yX10_changesTo cX10_changesTo 6 (some .int) 2 := ⟨(mem_t7 132 (by decide +kernel)), (mem_t7 134 (by decide +kernel)), (mem_g 89 (by decide +kernel) (by decide +kernel)), (mem_t1 11 (by decide +kernel)), (mem_t7 135 (by decide +kernel)), ⟨by decide +kernel, by decide +kernel, by decide +kernel⟩, by decide⟩
theorem fiX10_104 : FI RX10 104 10 44 1 := ⟨RX10, TX10, 54, rfl, by decide, (mem_t5 97 (by decide +kernel)), uwsX10, rfl⟩
theorem fn_169_44 {R : Nat → Nat → Nat} (h : Ph R) : R 169 44 = 197 := h.1 (169, 44, 197) (List.mem_of_getElem? (i := 179) (by decide +kernel))
theorem ln_197 : ln 197 = 22 := by decide +kernel
theorem ad_197 : (197 : Nat) ≠ 0 ∧ 197 ≤ 205 ∧ (sh 197).1 = 0 := by decide +kernel
theorem cvX10_407 : CV RX10 407 yX10_placeWith cX10_placeWith 4 (some .int) 3 := ⟨(mem_t7 152 (by decide +kernel)), (mem_t7 154 (by decide +kernel)), (mem_g 90 (by decide +kernel) (by decide +kernel)), (mem_t1 11 (by decide +kernel)), (mem_t7 155 (by decide +kernel)), ⟨by decide +kernel, by decide +kernel, by decide +kernel⟩, by decide⟩
theorem klX10_410 : Cond.constantLong RX10 410 4 ∈ gtbl := (mem_t7 160 (by decide +kernel))
theorem csX10_412 : CS RX10 412 yX10_lowest cX10_lowest 1 (some .int) 1 := ⟨(mem_t7 161 (by decide +kernel)), (mem_t7 162 (by decide +kernel)), (mem_t1 11 (by decide +kernel)), (mem_t7 163 (by decide +kernel)), ⟨by decide +kernel, by decide +kernel, by decide +kernel⟩, by decide⟩
theorem csX10_415 : CS RX10 415 yX10_highest cX10_highest 1 (some .int) 1 := ⟨(mem_t7 164 (by decide +kernel)), (mem_t7 165 (by decide +kernel)), (mem_t1 11 (by decide +kernel)), (mem_t7 166 (by decide +kernel)), ⟨by decide +kernel, by decide +kernel, by decide +kernel⟩, by decide⟩
theorem fiX10_418 : FI RX10 418 10 45 0 := ⟨RX10, TX10, 54, rfl, by decide, (mem_t5 98 (by decide +kernel)), uwsX10, rfl⟩
theorem fiX10_107 : FI RX10 107 10 46 1 := ⟨RX10, TX10, 54, rfl, by decide, (mem_t5 99 (by decide +kernel)), uwsX10, rfl⟩
theorem fn_169_46 {R : Nat → Nat → Nat} (h : Ph R) : R 169 46 = 198 := h.1 (169, 46, 198) (List.mem_of_getElem? (i := 180) (by decide +kernel))
theorem ln_198 : ln 198 = 12 := by decide +kernel
theorem ad_198 : (198 : Nat) ≠ 0 ∧ 198 ≤ 205 ∧ (sh 198).1 = 0 := by decide +kernel
theorem fiX10_110 : FI RX10 110 10 47 1 := ⟨RX10, TX10, 54, rfl, by decide, (mem_t5 100 (by decide +kernel)), uwsX10, rfl⟩
theorem fn_169_47 {R : Nat → Nat → Nat} (h : Ph R) : R 169 47 = 199 := h.1 (169, 47, 199) (List.mem_of_getElem? (i := 181) (by decide +kernel))
theorem ln_199 : ln 199 = 12 := by decide +kernel
theorem ad_199 : (199 : Nat) ≠ 0 ∧ 199 ≤ 205 ∧ (sh 199).1 = 0 := by decide +kernel
theorem fpX10_418 : FP RX10 418 10 45 0 false .int := ⟨RX10, TX10, 54, tyX10, rfl, by decide, (mem_t5 98 (by decide +kernel)), uwsX10, rfl, tyX10_ok, nmX10, rfl, rfl⟩
theorem cvX10_421 : CV RX10 421 yX10_isSo cX10_isSo 4 (some .boolean) 3 := ⟨(mem_t7 179 (by decide +kernel)), (mem_t7 181 (by decide +kernel)), (mem_g 92 (by decide +kernel) (by decide +kernel)), (mem_t1 11 (by decide +kernel)), (mem_t7 182 (by decide +kernel)), ⟨by decide +kernel, by decide +kernel, by decide +kernel⟩, by decide⟩
theorem cvX10_425 : CV RX10 425 yX10_fitting cX10_fitting 5 (some .int) 0 := ⟨(mem_t7 175 (by decide +kernel)), (mem_t7 177 (by decide +kernel)), (mem_g 91 (by decide +kernel) (by decide +kernel)), (mem_t1 11 (by decide +kernel)), (mem_t7 178 (by decide +kernel)), ⟨by decide +kernel, by decide +kernel, by decide +kernel⟩, by decide⟩
theorem csX10_428 : CS RX10 428 yBC cBC 1 (some .int) 1 := ⟨(mem_t7 183 (by decide +kernel)), (mem_t3 235 (by decide +kernel)), (mem_t1 21 (by decide +kernel)), (mem_t3 236 (by decide +kernel)), ⟨by decide +kernel, by decide +kernel, by decide +kernel⟩, by decide⟩
theorem klX10_433 : Cond.constantLong RX10 433 10 ∈ gtbl := (mem_t7 192 (by decide +kernel))
theorem klX10_435 : Cond.constantLong RX10 435 2 ∈ gtbl := (mem_t7 200 (by decide +kernel))
theorem fiX10_113 : FI RX10 113 10 48 1 := ⟨RX10, TX10, 54, rfl, by decide, (mem_t5 101 (by decide +kernel)), uwsX10, rfl⟩
theorem fn_169_48 {R : Nat → Nat → Nat} (h : Ph R) : R 169 48 = 200 := h.1 (169, 48, 200) (List.mem_of_getElem? (i := 182) (by decide +kernel))
theorem ln_200 : ln 200 = 61 := by decide +kernel
theorem ad_200 : (200 : Nat) ≠ 0 ∧ 200 ≤ 205 ∧ (sh 200).1 = 0 := by decide +kernel
theorem fiX10_116 : FI RX10 116 10 49 1 := ⟨RX10, TX10, 54, rfl, by decide, (mem_t5 102 (by decide +kernel)), uwsX10, rfl⟩
theorem fn_169_49 {R : Nat → Nat → Nat} (h : Ph R) : R 169 49 = 201 := h.1 (169, 49, 201) (List.mem_of_getElem? (i := 183) (by decide +kernel))
theorem ad_201 : (201 : Nat) ≠ 0 ∧ 201 ≤ 205 ∧ (sh 201).1 = 0 := by decide +kernel
theorem ln_201 : ln 201 = 80 := by decide +kernel
theorem csX10_437 : CS RX10 437 yX10_gets cX10_gets 3 (some .int) 3 := ⟨(mem_t7 213 (by decide +kernel)), (mem_t7 214 (by decide +kernel)), (mem_t1 11 (by decide +kernel)), (mem_t7 215 (by decide +kernel)), ⟨by decide +kernel, by decide +kernel, by decide +kernel⟩, by decide⟩
theorem klX10_440 : Cond.constantLong RX10 440 20 ∈ gtbl := (mem_t7 209 (by decide +kernel))
theorem csX10_442 : CS RX10 442 yX10_isRest cX10_isRest 5 (some .boolean) 3 := ⟨(mem_t7 210 (by decide +kernel)), (mem_t7 211 (by decide +kernel)), (mem_t1 11 (by decide +kernel)), (mem_t7 212 (by decide +kernel)), ⟨by decide +kernel, by decide +kernel, by decide +kernel⟩, by decide⟩
theorem fiX10_445 : FI RX10 445 10 50 0 := ⟨RX10, TX10, 54, rfl, by decide, (mem_t5 103 (by decide +kernel)), uwsX10, rfl⟩
theorem kcX10_448 : Cond.constant RX10 448 1103515245 ∈ gtbl := (mem_t7 224 (by decide +kernel))
theorem fpX10_445 : FP RX10 445 10 50 0 false .int := ⟨RX10, TX10, 54, tyX10, rfl, by decide, (mem_t5 103 (by decide +kernel)), uwsX10, rfl, tyX10_ok, nmX10, rfl, rfl⟩
theorem cvX10_449 : CV RX10 449 yX10_draws cX10_draws 2 (some .int) 1 := ⟨(mem_t7 220 (by decide +kernel)), (mem_t7 222 (by decide +kernel)), (mem_g 93 (by decide +kernel) (by decide +kernel)), (mem_t1 11 (by decide +kernel)), (mem_t7 223 (by decide +kernel)), ⟨by decide +kernel, by decide +kernel, by decide +kernel⟩, by decide⟩
theorem fiX10_119 : FI RX10 119 10 51 1 := ⟨RX10, TX10, 54, rfl, by decide, (mem_t5 104 (by decide +kernel)), uwsX10, rfl⟩
theorem fn_169_51 {R : Nat → Nat → Nat} (h : Ph R) : R 169 51 = 202 := h.1 (169, 51, 202) (List.mem_of_getElem? (i := 184) (by decide +kernel))
theorem ln_202 : ln 202 = 3 := by decide +kernel
theorem ad_202 : (202 : Nat) ≠ 0 ∧ 202 ≤ 205 ∧ (sh 202).1 = 1 := by decide +kernel
theorem fiX10_122 : FI RX10 122 10 52 1 := ⟨RX10, TX10, 54, rfl, by decide, (mem_t5 105 (by decide +kernel)), uwsX10, rfl⟩
theorem fn_169_52 {R : Nat → Nat → Nat} (h : Ph R) : R 169 52 = 203 := h.1 (169, 52, 203) (List.mem_of_getElem? (i := 185) (by decide +kernel))
theorem ln_203 : ln 203 = 3 := by decide +kernel
theorem ad_203 : (203 : Nat) ≠ 0 ∧ 203 ≤ 205 ∧ (sh 203).1 = 0 := by decide +kernel
theorem fiX10_125 : FI RX10 125 10 53 1 := ⟨RX10, TX10, 54, rfl, by decide, (mem_t5 106 (by decide +kernel)), uwsX10, rfl⟩
theorem fn_169_53 {R : Nat → Nat → Nat} (h : Ph R) : R 169 53 = 204 := h.1 (169, 53, 204) (List.mem_of_getElem? (i := 186) (by decide +kernel))
theorem ln_204 : ln 204 = 66 := by decide +kernel
theorem ad_204 : (204 : Nat) ≠ 0 ∧ 204 ≤ 205 ∧ (sh 204).1 = 0 := by decide +kernel
