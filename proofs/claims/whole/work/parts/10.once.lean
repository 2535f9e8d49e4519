/-! links, addresses: by program -/
theorem uwsX4 : ∀ w ∈ u_ws RX4 TX4 9, w ∈ gtbl := fun w h => List.mem_filter.mpr ⟨(show ∀ w ∈ u_ws RX4 TX4 9, w ∈ lw_tbl by decide +kernel) w h, (show ∀ w ∈ u_ws RX4 TX4 9, goodWord w = true by decide +kernel) w h⟩
theorem fiX4_31 : FI RX4 31 4 0 0 := ⟨RX4, TX4, 9, rfl, by decide, (mem_g 165 (by decide +kernel) (by decide +kernel)), uwsX4, rfl⟩
theorem fpX4_31 : FP RX4 31 4 0 0 false .int := ⟨RX4, TX4, 9, tyX4, rfl, by decide, (mem_g 165 (by decide +kernel) (by decide +kernel)), uwsX4, rfl, tyX4_ok, nmX4, rfl, rfl⟩
theorem fiX4_24 : FI RX4 24 4 5 0 := ⟨RX4, TX4, 9, rfl, by decide, (mem_g 178 (by decide +kernel) (by decide +kernel)), uwsX4, rfl⟩
theorem fpX4_24 : FP RX4 24 4 5 0 false .int := ⟨RX4, TX4, 9, tyX4, rfl, by decide, (mem_g 178 (by decide +kernel) (by decide +kernel)), uwsX4, rfl, tyX4_ok, nmX4, rfl, rfl⟩
theorem fiX4_28 : FI RX4 28 4 6 0 := ⟨RX4, TX4, 9, rfl, by decide, (mem_g 181 (by decide +kernel) (by decide +kernel)), uwsX4, rfl⟩
theorem fpX4_28 : FP RX4 28 4 6 0 false .int := ⟨RX4, TX4, 9, tyX4, rfl, by decide, (mem_g 181 (by decide +kernel) (by decide +kernel)), uwsX4, rfl, tyX4_ok, nmX4, rfl, rfl⟩
theorem fiX4_34 : FI RX4 34 4 7 0 := ⟨RX4, TX4, 9, rfl, by decide, (mem_g 184 (by decide +kernel) (by decide +kernel)), uwsX4, rfl⟩
theorem fpX4_34 : FP RX4 34 4 7 0 false .int := ⟨RX4, TX4, 9, tyX4, rfl, by decide, (mem_g 184 (by decide +kernel) (by decide +kernel)), uwsX4, rfl, tyX4_ok, nmX4, rfl, rfl⟩
theorem fiX4_37 : FI RX4 37 4 8 0 := ⟨RX4, TX4, 9, rfl, by decide, (mem_g 187 (by decide +kernel) (by decide +kernel)), uwsX4, rfl⟩
theorem fpX4_37 : FP RX4 37 4 8 0 false .int := ⟨RX4, TX4, 9, tyX4, rfl, by decide, (mem_g 187 (by decide +kernel) (by decide +kernel)), uwsX4, rfl, tyX4_ok, nmX4, rfl, rfl⟩
theorem fiX4_9 : FI RX4 9 4 1 1 := ⟨RX4, TX4, 9, rfl, by decide, (mem_g 167 (by decide +kernel) (by decide +kernel)), uwsX4, rfl⟩
theorem fiX4_15 : FI RX4 15 4 2 1 := ⟨RX4, TX4, 9, rfl, by decide, (mem_g 170 (by decide +kernel) (by decide +kernel)), uwsX4, rfl⟩
theorem fiX4_18 : FI RX4 18 4 3 1 := ⟨RX4, TX4, 9, rfl, by decide, (mem_g 173 (by decide +kernel) (by decide +kernel)), uwsX4, rfl⟩
theorem fiX4_21 : FI RX4 21 4 4 1 := ⟨RX4, TX4, 9, rfl, by decide, (mem_g 175 (by decide +kernel) (by decide +kernel)), uwsX4, rfl⟩
theorem cvX4_40 : CV RX4 40 yX4_has cX4_has 2 (some .boolean) 1 := ⟨(mem_g 602 (by decide +kernel) (by decide +kernel)), (mem_g 603 (by decide +kernel) (by decide +kernel)), (mem_g 604 (by decide +kernel) (by decide +kernel)), (mem_g 98 (by decide +kernel) (by decide +kernel)), (mem_g 605 (by decide +kernel) (by decide +kernel)), ⟨by decide +kernel, by decide +kernel, by decide +kernel⟩, by decide⟩
theorem cvX4_44 : CV RX4 44 yX4_put cX4_put 3 none 2 := ⟨(mem_g 606 (by decide +kernel) (by decide +kernel)), (mem_g 607 (by decide +kernel) (by decide +kernel)), (mem_g 608 (by decide +kernel) (by decide +kernel)), (mem_g 98 (by decide +kernel) (by decide +kernel)), (mem_g 609 (by decide +kernel) (by decide +kernel)), ⟨by decide +kernel, by decide +kernel, by decide +kernel⟩, by decide⟩
theorem mmX4_48 : MM RX4 48 Lib.Math.min.name Lib.Math.min.code 2 := ⟨(mem_g 525 (by decide +kernel) (by decide +kernel)), (mem_g 526 (by decide +kernel) (by decide +kernel)), (mem_g 106 (by decide +kernel) (by decide +kernel)), (mem_g 527 (by decide +kernel) (by decide +kernel))⟩
theorem mmX4_54 : MM RX4 54 Lib.Math.max.name Lib.Math.max.code 2 := ⟨(mem_g 528 (by decide +kernel) (by decide +kernel)), (mem_g 529 (by decide +kernel) (by decide +kernel)), (mem_g 106 (by decide +kernel) (by decide +kernel)), (mem_g 530 (by decide +kernel) (by decide +kernel))⟩
theorem uwsX8 : ∀ w ∈ u_ws RX8 TX8 2, w ∈ gtbl := fun w h => List.mem_filter.mpr ⟨(show ∀ w ∈ u_ws RX8 TX8 2, w ∈ lw_tbl by decide +kernel) w h, (show ∀ w ∈ u_ws RX8 TX8 2, goodWord w = true by decide +kernel) w h⟩
theorem fiX8_15 : FI RX8 15 8 1 0 := ⟨RX8, TX8, 2, rfl, by decide, (mem_g 133 (by decide +kernel) (by decide +kernel)), uwsX8, rfl⟩
theorem ad_2 : (2 : Nat) ≠ 0 ∧ 2 ≤ 205 ∧ (sh 2).1 = 8 + 10 := by decide +kernel
theorem fiX8_9 : FI RX8 9 8 0 1 := ⟨RX8, TX8, 2, rfl, by decide, (mem_g 130 (by decide +kernel) (by decide +kernel)), uwsX8, rfl⟩
theorem fn_2_0 {R : Nat → Nat → Nat} (h : Ph R) : R 2 0 = 3 := h.1 (2, 0, 3) (List.mem_of_getElem? (i := 17) (by decide +kernel))
theorem ln_3 : ln 3 = 80 := by decide +kernel
theorem ad_3 : (3 : Nat) ≠ 0 ∧ 3 ≤ 205 ∧ (sh 3).1 = 0 := by decide +kernel
theorem fpX8_15 : FP RX8 15 8 1 0 false .int := ⟨RX8, TX8, 2, tyX8, rfl, by decide, (mem_g 133 (by decide +kernel) (by decide +kernel)), uwsX8, rfl, tyX8_ok, nmX8, rfl, rfl⟩
theorem cvX8_19 : CV RX8 19 yX8_signAt cX8_signAt 2 (some .int) 1 := ⟨(mem_g 465 (by decide +kernel) (by decide +kernel)), (mem_g 466 (by decide +kernel) (by decide +kernel)), (mem_g 467 (by decide +kernel) (by decide +kernel)), (mem_g 96 (by decide +kernel) (by decide +kernel)), (mem_g 468 (by decide +kernel) (by decide +kernel)), ⟨by decide +kernel, by decide +kernel, by decide +kernel⟩, by decide⟩
theorem uwsX5 : ∀ w ∈ u_ws RX5 TX5 2, w ∈ gtbl := fun w h => List.mem_filter.mpr ⟨(show ∀ w ∈ u_ws RX5 TX5 2, w ∈ lw_tbl by decide +kernel) w h, (show ∀ w ∈ u_ws RX5 TX5 2, goodWord w = true by decide +kernel) w h⟩
theorem fiX5_15 : FI RX5 15 5 1 0 := ⟨RX5, TX5, 2, rfl, by decide, (mem_g 150 (by decide +kernel) (by decide +kernel)), uwsX5, rfl⟩
theorem ad_4 : (4 : Nat) ≠ 0 ∧ 4 ≤ 205 ∧ (sh 4).1 = 5 + 10 := by decide +kernel
theorem fiX5_9 : FI RX5 9 5 0 1 := ⟨RX5, TX5, 2, rfl, by decide, (mem_g 148 (by decide +kernel) (by decide +kernel)), uwsX5, rfl⟩
theorem fn_4_0 {R : Nat → Nat → Nat} (h : Ph R) : R 4 0 = 5 := h.1 (4, 0, 5) (List.mem_of_getElem? (i := 18) (by decide +kernel))
theorem ln_5 : ln 5 = 16 := by decide +kernel
theorem ad_5 : (5 : Nat) ≠ 0 ∧ 5 ≤ 205 ∧ (sh 5).1 = 2 := by decide +kernel
theorem fpX5_15 : FP RX5 15 5 1 0 false .int := ⟨RX5, TX5, 2, tyX5, rfl, by decide, (mem_g 150 (by decide +kernel) (by decide +kernel)), uwsX5, rfl, tyX5_ok, nmX5, rfl, rfl⟩
theorem cvX5_19 : CV RX5 19 yX5_add cX5_add 3 none 1 := ⟨(mem_g 614 (by decide +kernel) (by decide +kernel)), (mem_g 615 (by decide +kernel) (by decide +kernel)), (mem_g 616 (by decide +kernel) (by decide +kernel)), (mem_g 97 (by decide +kernel) (by decide +kernel)), (mem_g 617 (by decide +kernel) (by decide +kernel)), ⟨by decide +kernel, by decide +kernel, by decide +kernel⟩, by decide⟩
theorem uwsX7 : ∀ w ∈ u_ws RX7 TX7 3, w ∈ gtbl := fun w h => List.mem_filter.mpr ⟨(show ∀ w ∈ u_ws RX7 TX7 3, w ∈ lw_tbl by decide +kernel) w h, (show ∀ w ∈ u_ws RX7 TX7 3, goodWord w = true by decide +kernel) w h⟩
theorem fiX7_18 : FI RX7 18 7 2 0 := ⟨RX7, TX7, 3, rfl, by decide, (mem_g 236 (by decide +kernel) (by decide +kernel)), uwsX7, rfl⟩
theorem ad_105 : (105 : Nat) ≠ 0 ∧ 105 ≤ 205 ∧ (sh 105).1 = 7 + 10 := by decide +kernel
theorem fiX7_9 : FI RX7 9 7 0 1 := ⟨RX7, TX7, 3, rfl, by decide, (mem_g 232 (by decide +kernel) (by decide +kernel)), uwsX7, rfl⟩
theorem fn_105_0 {R : Nat → Nat → Nat} (h : Ph R) : R 105 0 = 106 := h.1 (105, 0, 106) (List.mem_of_getElem? (i := 99) (by decide +kernel))
theorem ln_106 : ln 106 = 12 := by decide +kernel
theorem ad_106 : (106 : Nat) ≠ 0 ∧ 106 ≤ 205 ∧ (sh 106).1 = 0 := by decide +kernel
theorem fiX7_15 : FI RX7 15 7 1 1 := ⟨RX7, TX7, 3, rfl, by decide, (mem_g 234 (by decide +kernel) (by decide +kernel)), uwsX7, rfl⟩
theorem fn_105_1 {R : Nat → Nat → Nat} (h : Ph R) : R 105 1 = 107 := h.1 (105, 1, 107) (List.mem_of_getElem? (i := 100) (by decide +kernel))
theorem ln_107 : ln 107 = 12 := by decide +kernel
theorem ad_107 : (107 : Nat) ≠ 0 ∧ 107 ≤ 205 ∧ (sh 107).1 = 0 := by decide +kernel
theorem fpX7_18 : FP RX7 18 7 2 0 false .int := ⟨RX7, TX7, 3, tyX7, rfl, by decide, (mem_g 236 (by decide +kernel) (by decide +kernel)), uwsX7, rfl, tyX7_ok, nmX7, rfl, rfl⟩
theorem uwsX0 : ∀ w ∈ u_ws RX0 TX0 1, w ∈ gtbl := fun w h => List.mem_filter.mpr ⟨(show ∀ w ∈ u_ws RX0 TX0 1, w ∈ lw_tbl by decide +kernel) w h, (show ∀ w ∈ u_ws RX0 TX0 1, goodWord w = true by decide +kernel) w h⟩
theorem fiX0_7 : FI RX0 7 0 0 0 := ⟨RX0, TX0, 1, rfl, by decide, (mem_g 336 (by decide +kernel) (by decide +kernel)), uwsX0, rfl⟩
theorem ad_141 : (141 : Nat) ≠ 0 ∧ 141 ≤ 205 ∧ (sh 141).1 = 0 + 10 := by decide +kernel
theorem kcX0_13 : Cond.constant RX0 13 1103515245 ∈ gtbl := (mem_g 985 (by decide +kernel) (by decide +kernel))
theorem fpX0_7 : FP RX0 7 0 0 0 false .int := ⟨RX0, TX0, 1, tyX0, rfl, by decide, (mem_g 336 (by decide +kernel) (by decide +kernel)), uwsX0, rfl, tyX0_ok, nmX0, rfl, rfl⟩
theorem uwsX2 : ∀ w ∈ u_ws RX2 TX2 2, w ∈ gtbl := fun w h => List.mem_filter.mpr ⟨(show ∀ w ∈ u_ws RX2 TX2 2, w ∈ lw_tbl by decide +kernel) w h, (show ∀ w ∈ u_ws RX2 TX2 2, goodWord w = true by decide +kernel) w h⟩
theorem fiX2_11 : FI RX2 11 2 0 1 := ⟨RX2, TX2, 2, rfl, by decide, (mem_g 218 (by decide +kernel) (by decide +kernel)), uwsX2, rfl⟩
theorem ad_26 : (26 : Nat) ≠ 0 ∧ 26 ≤ 205 ∧ (sh 26).1 = 2 + 10 := by decide +kernel
theorem fn_26_0 {R : Nat → Nat → Nat} (h : Ph R) : R 26 0 = 27 := h.1 (26, 0, 27) (List.mem_of_getElem? (i := 35) (by decide +kernel))
theorem ln_27 : ln 27 = 15 := by decide +kernel
theorem ad_27 : (27 : Nat) ≠ 0 ∧ 27 ≤ 205 ∧ (sh 27).1 = 3 := by decide +kernel
theorem fpX2_18 : FP RX2 18 2 1 0 false .int := ⟨RX2, TX2, 2, tyX2, rfl, by decide, (mem_g 219 (by decide +kernel) (by decide +kernel)), uwsX2, rfl, tyX2_ok, nmX2, rfl, rfl⟩
theorem fiX2_18 : FI RX2 18 2 1 0 := ⟨RX2, TX2, 2, rfl, by decide, (mem_g 219 (by decide +kernel) (by decide +kernel)), uwsX2, rfl⟩
theorem cvX2_22 : CV RX2 22 yX2_dropOldest cX2_dropOldest 3 none 0 := ⟨(mem_g 543 (by decide +kernel) (by decide +kernel)), (mem_g 545 (by decide +kernel) (by decide +kernel)), (mem_g 12 (by decide +kernel) (by decide +kernel)), (mem_g 99 (by decide +kernel) (by decide +kernel)), (mem_g 546 (by decide +kernel) (by decide +kernel)), ⟨by decide +kernel, by decide +kernel, by decide +kernel⟩, by decide⟩
theorem cvX2_25 : CV RX2 25 yX4_copyFrom cX4_copyFrom 3 none 1 := ⟨(mem_g 547 (by decide +kernel) (by decide +kernel)), (mem_g 548 (by decide +kernel) (by decide +kernel)), (mem_g 549 (by decide +kernel) (by decide +kernel)), (mem_g 98 (by decide +kernel) (by decide +kernel)), (mem_g 550 (by decide +kernel) (by decide +kernel)), ⟨by decide +kernel, by decide +kernel, by decide +kernel⟩, by decide⟩
theorem uwsX6 : ∀ w ∈ u_ws RX6 TX6 7, w ∈ gtbl := fun w h => List.mem_filter.mpr ⟨(show ∀ w ∈ u_ws RX6 TX6 7, w ∈ lw_tbl by decide +kernel) w h, (show ∀ w ∈ u_ws RX6 TX6 7, goodWord w = true by decide +kernel) w h⟩
theorem fiX6_28 : FI RX6 28 6 1 0 := ⟨RX6, TX6, 7, rfl, by decide, (mem_g 356 (by decide +kernel) (by decide +kernel)), uwsX6, rfl⟩
theorem fiX6_11 : FI RX6 11 6 0 1 := ⟨RX6, TX6, 7, rfl, by decide, (mem_g 355 (by decide +kernel) (by decide +kernel)), uwsX6, rfl⟩
theorem fpX6_28 : FP RX6 28 6 1 0 false .int := ⟨RX6, TX6, 7, tyX6, rfl, by decide, (mem_g 356 (by decide +kernel) (by decide +kernel)), uwsX6, rfl, tyX6_ok, nmX6, rfl, rfl⟩
theorem fpX6_32 : FP RX6 32 6 2 0 false .boolean := ⟨RX6, TX6, 7, tyX6, rfl, by decide, (mem_g 357 (by decide +kernel) (by decide +kernel)), uwsX6, rfl, tyX6_ok, nmX6, rfl, rfl⟩
theorem cvX6_36 : CV RX6 36 yX6_emit cX6_emit 2 none 1 := ⟨(mem_g 351 (by decide +kernel) (by decide +kernel)), (mem_g 353 (by decide +kernel) (by decide +kernel)), (mem_g 1 (by decide +kernel) (by decide +kernel)), (mem_g 104 (by decide +kernel) (by decide +kernel)), (mem_g 354 (by decide +kernel) (by decide +kernel)), ⟨by decide +kernel, by decide +kernel, by decide +kernel⟩, by decide⟩
theorem fiX6_43 : FI RX6 43 6 6 0 := ⟨RX6, TX6, 7, rfl, by decide, (mem_g 363 (by decide +kernel) (by decide +kernel)), uwsX6, rfl⟩
theorem fiX6_21 : FI RX6 21 6 5 1 := ⟨RX6, TX6, 7, rfl, by decide, (mem_g 362 (by decide +kernel) (by decide +kernel)), uwsX6, rfl⟩
theorem fiX6_40 : FI RX6 40 8 1 0 := ⟨RX8, TX8, 2, rfl, by decide, (mem_g 135 (by decide +kernel) (by decide +kernel)), uwsX8, rfl⟩
theorem fiX6_50 : FI RX6 50 8 0 1 := ⟨RX8, TX8, 2, rfl, by decide, (mem_g 131 (by decide +kernel) (by decide +kernel)), uwsX8, rfl⟩
theorem fpX6_43 : FP RX6 43 6 6 0 false .int := ⟨RX6, TX6, 7, tyX6, rfl, by decide, (mem_g 363 (by decide +kernel) (by decide +kernel)), uwsX6, rfl, tyX6_ok, nmX6, rfl, rfl⟩
theorem cvX6_46 : CV RX6 46 yX6_readExpression cX6_readExpression 3 (some .boolean) 1 := ⟨(mem_g 486 (by decide +kernel) (by decide +kernel)), (mem_g 488 (by decide +kernel) (by decide +kernel)), (mem_g 5 (by decide +kernel) (by decide +kernel)), (mem_g 104 (by decide +kernel) (by decide +kernel)), (mem_g 489 (by decide +kernel) (by decide +kernel)), ⟨by decide +kernel, by decide +kernel, by decide +kernel⟩, by decide⟩
theorem cvX6_56 : CV RX6 56 yX6_peek cX6_peek 1 (some .int) 0 := ⟨(mem_g 502 (by decide +kernel) (by decide +kernel)), (mem_g 504 (by decide +kernel) (by decide +kernel)), (mem_g 9 (by decide +kernel) (by decide +kernel)), (mem_g 104 (by decide +kernel) (by decide +kernel)), (mem_g 505 (by decide +kernel) (by decide +kernel)), ⟨by decide +kernel, by decide +kernel, by decide +kernel⟩, by decide⟩
theorem csX6_73 : CS RX6 73 yX6_thingOf cX6_thingOf 1 (some .int) 1 := ⟨(mem_g 514 (by decide +kernel) (by decide +kernel)), (mem_g 515 (by decide +kernel) (by decide +kernel)), (mem_g 104 (by decide +kernel) (by decide +kernel)), (mem_g 516 (by decide +kernel) (by decide +kernel)), ⟨by decide +kernel, by decide +kernel, by decide +kernel⟩, by decide⟩
theorem fiX6_32 : FI RX6 32 6 2 0 := ⟨RX6, TX6, 7, rfl, by decide, (mem_g 357 (by decide +kernel) (by decide +kernel)), uwsX6, rfl⟩
theorem cvX6_69 : CV RX6 69 yX6_readThing cX6_readThing 5 (some .boolean) 0 := ⟨(mem_g 510 (by decide +kernel) (by decide +kernel)), (mem_g 512 (by decide +kernel) (by decide +kernel)), (mem_g 11 (by decide +kernel) (by decide +kernel)), (mem_g 104 (by decide +kernel) (by decide +kernel)), (mem_g 513 (by decide +kernel) (by decide +kernel)), ⟨by decide +kernel, by decide +kernel, by decide +kernel⟩, by decide⟩
theorem cvX6_66 : CV RX6 66 yX6_readInner cX6_readInner 2 (some .boolean) 1 := ⟨(mem_g 506 (by decide +kernel) (by decide +kernel)), (mem_g 508 (by decide +kernel) (by decide +kernel)), (mem_g 10 (by decide +kernel) (by decide +kernel)), (mem_g 104 (by decide +kernel) (by decide +kernel)), (mem_g 509 (by decide +kernel) (by decide +kernel)), ⟨by decide +kernel, by decide +kernel, by decide +kernel⟩, by decide⟩
theorem cvX6_63 : CV RX6 63 yX6_readSigned cX6_readSigned 4 (some .boolean) 1 := ⟨(mem_g 498 (by decide +kernel) (by decide +kernel)), (mem_g 500 (by decide +kernel) (by decide +kernel)), (mem_g 8 (by decide +kernel) (by decide +kernel)), (mem_g 104 (by decide +kernel) (by decide +kernel)), (mem_g 501 (by decide +kernel) (by decide +kernel)), ⟨by decide +kernel, by decide +kernel, by decide +kernel⟩, by decide⟩
theorem cvX6_60 : CV RX6 60 yX6_readProduct cX6_readProduct 5 (some .boolean) 1 := ⟨(mem_g 494 (by decide +kernel) (by decide +kernel)), (mem_g 496 (by decide +kernel) (by decide +kernel)), (mem_g 7 (by decide +kernel) (by decide +kernel)), (mem_g 104 (by decide +kernel) (by decide +kernel)), (mem_g 497 (by decide +kernel) (by decide +kernel)), ⟨by decide +kernel, by decide +kernel, by decide +kernel⟩, by decide⟩
theorem cvX6_53 : CV RX6 53 yX6_readSum cX6_readSum 5 (some .boolean) 1 := ⟨(mem_g 490 (by decide +kernel) (by decide +kernel)), (mem_g 492 (by decide +kernel) (by decide +kernel)), (mem_g 6 (by decide +kernel) (by decide +kernel)), (mem_g 104 (by decide +kernel) (by decide +kernel)), (mem_g 493 (by decide +kernel) (by decide +kernel)), ⟨by decide +kernel, by decide +kernel, by decide +kernel⟩, by decide⟩
theorem cvX6_25 : CV RX6 25 yX6_takeStandard cX6_takeStandard 1 none 0 := ⟨(mem_g 347 (by decide +kernel) (by decide +kernel)), (mem_g 349 (by decide +kernel) (by decide +kernel)), (mem_g 0 (by decide +kernel) (by decide +kernel)), (mem_g 104 (by decide +kernel) (by decide +kernel)), (mem_g 350 (by decide +kernel) (by decide +kernel)), ⟨by decide +kernel, by decide +kernel, by decide +kernel⟩, by decide⟩
theorem fiX6_18 : FI RX6 18 6 4 1 := ⟨RX6, TX6, 7, rfl, by decide, (mem_g 361 (by decide +kernel) (by decide +kernel)), uwsX6, rfl⟩
theorem mmX6_81 : MM RX6 81 Lib.Math.min.name Lib.Math.min.code 2 := ⟨(mem_g 582 (by decide +kernel) (by decide +kernel)), (mem_g 526 (by decide +kernel) (by decide +kernel)), (mem_g 106 (by decide +kernel) (by decide +kernel)), (mem_g 527 (by decide +kernel) (by decide +kernel))⟩
theorem mmX6_87 : MM RX6 87 Lib.Math.max.name Lib.Math.max.code 2 := ⟨(mem_g 583 (by decide +kernel) (by decide +kernel)), (mem_g 529 (by decide +kernel) (by decide +kernel)), (mem_g 106 (by decide +kernel) (by decide +kernel)), (mem_g 530 (by decide +kernel) (by decide +kernel))⟩
theorem csX6_77 : CS RX6 77 yX6_joined cX6_joined 3 (some .int) 3 := ⟨(mem_g 579 (by decide +kernel) (by decide +kernel)), (mem_g 580 (by decide +kernel) (by decide +kernel)), (mem_g 104 (by decide +kernel) (by decide +kernel)), (mem_g 581 (by decide +kernel) (by decide +kernel)), ⟨by decide +kernel, by decide +kernel, by decide +kernel⟩, by decide⟩
theorem fiX6_15 : FI RX6 15 6 3 1 := ⟨RX6, TX6, 7, rfl, by decide, (mem_g 359 (by decide +kernel) (by decide +kernel)), uwsX6, rfl⟩
theorem uwsX3 : ∀ w ∈ u_ws RX3 TX3 9, w ∈ gtbl := fun w h => List.mem_filter.mpr ⟨(show ∀ w ∈ u_ws RX3 TX3 9, w ∈ lw_tbl by decide +kernel) w h, (show ∀ w ∈ u_ws RX3 TX3 9, goodWord w = true by decide +kernel) w h⟩
theorem fiX3_15 : FI RX3 15 3 2 1 := ⟨RX3, TX3, 9, rfl, by decide, (mem_g 255 (by decide +kernel) (by decide +kernel)), uwsX3, rfl⟩
theorem ad_108 : (108 : Nat) ≠ 0 ∧ 108 ≤ 205 ∧ (sh 108).1 = 3 + 10 := by decide +kernel
theorem fn_108_2 {R : Nat → Nat → Nat} (h : Ph R) : R 108 2 = 110 := h.1 (108, 2, 110) (List.mem_of_getElem? (i := 102) (by decide +kernel))
theorem ln_110 : ln 110 = 6 := by decide +kernel
theorem ad_110 : (110 : Nat) ≠ 0 ∧ 110 ≤ 205 ∧ (sh 110).1 = 1 := by decide +kernel
theorem fiX3_37 : FI RX3 37 3 0 0 := ⟨RX3, TX3, 9, rfl, by decide, (mem_g 252 (by decide +kernel) (by decide +kernel)), uwsX3, rfl⟩
theorem fiX3_77 : FI RX3 77 4 4 1 := ⟨RX4, TX4, 9, rfl, by decide, (mem_g 176 (by decide +kernel) (by decide +kernel)), uwsX4, rfl⟩
theorem cvX3_69 : CV RX3 69 yX3_nextAhead cX3_nextAhead 3 (some .int) 1 := ⟨(mem_g 567 (by decide +kernel) (by decide +kernel)), (mem_g 568 (by decide +kernel) (by decide +kernel)), (mem_g 569 (by decide +kernel) (by decide +kernel)), (mem_g 101 (by decide +kernel) (by decide +kernel)), (mem_g 570 (by decide +kernel) (by decide +kernel)), ⟨by decide +kernel, by decide +kernel, by decide +kernel⟩, by decide⟩
theorem cvX3_80 : CV RX3 80 yX3_nextBehind cX3_nextBehind 3 (some .int) 1 := ⟨(mem_g 571 (by decide +kernel) (by decide +kernel)), (mem_g 573 (by decide +kernel) (by decide +kernel)), (mem_g 15 (by decide +kernel) (by decide +kernel)), (mem_g 101 (by decide +kernel) (by decide +kernel)), (mem_g 574 (by decide +kernel) (by decide +kernel)), ⟨by decide +kernel, by decide +kernel, by decide +kernel⟩, by decide⟩
theorem fiX3_83 : FI RX3 83 6 3 1 := ⟨RX6, TX6, 7, rfl, by decide, (mem_g 360 (by decide +kernel) (by decide +kernel)), uwsX6, rfl⟩
theorem fiX3_86 : FI RX3 86 4 1 1 := ⟨RX4, TX4, 9, rfl, by decide, (mem_g 168 (by decide +kernel) (by decide +kernel)), uwsX4, rfl⟩
theorem fiX3_89 : FI RX3 89 4 2 1 := ⟨RX4, TX4, 9, rfl, by decide, (mem_g 171 (by decide +kernel) (by decide +kernel)), uwsX4, rfl⟩
theorem fiX3_9 : FI RX3 9 3 1 1 := ⟨RX3, TX3, 9, rfl, by decide, (mem_g 253 (by decide +kernel) (by decide +kernel)), uwsX3, rfl⟩
theorem fn_108_1 {R : Nat → Nat → Nat} (h : Ph R) : R 108 1 = 109 := h.1 (108, 1, 109) (List.mem_of_getElem? (i := 101) (by decide +kernel))
theorem ln_109 : ln 109 = 6 := by decide +kernel
theorem ad_109 : (109 : Nat) ≠ 0 ∧ 109 ≤ 205 ∧ (sh 109).1 = 0 := by decide +kernel
theorem fiX3_92 : FI RX3 92 4 7 0 := ⟨RX4, TX4, 9, rfl, by decide, (mem_g 185 (by decide +kernel) (by decide +kernel)), uwsX4, rfl⟩
theorem fiX3_19 : FI RX3 19 3 3 1 := ⟨RX3, TX3, 9, rfl, by decide, (mem_g 257 (by decide +kernel) (by decide +kernel)), uwsX3, rfl⟩
theorem fn_108_3 {R : Nat → Nat → Nat} (h : Ph R) : R 108 3 = 111 := h.1 (108, 3, 111) (List.mem_of_getElem? (i := 103) (by decide +kernel))
theorem cvX3_95 : CV RX3 95 yX6_feet cX6_feet 4 (some .int) 0 := ⟨(mem_g 575 (by decide +kernel) (by decide +kernel)), (mem_g 576 (by decide +kernel) (by decide +kernel)), (mem_g 577 (by decide +kernel) (by decide +kernel)), (mem_g 104 (by decide +kernel) (by decide +kernel)), (mem_g 578 (by decide +kernel) (by decide +kernel)), ⟨by decide +kernel, by decide +kernel, by decide +kernel⟩, by decide⟩
theorem ln_111 : ln 111 = 6 := by decide +kernel
theorem ad_111 : (111 : Nat) ≠ 0 ∧ 111 ≤ 205 ∧ (sh 111).1 = 0 := by decide +kernel
theorem fiX3_31 : FI RX3 31 4 0 0 := ⟨RX4, TX4, 9, rfl, by decide, (mem_g 164 (by decide +kernel) (by decide +kernel)), uwsX4, rfl⟩
theorem fpX3_37 : FP RX3 37 3 0 0 false .int := ⟨RX3, TX3, 9, tyX3, rfl, by decide, (mem_g 252 (by decide +kernel) (by decide +kernel)), uwsX3, rfl, tyX3_ok, nmX3, rfl, rfl⟩
theorem fpX3_40 : FP RX3 40 3 4 0 false .int := ⟨RX3, TX3, 9, tyX3, rfl, by decide, (mem_g 258 (by decide +kernel) (by decide +kernel)), uwsX3, rfl, tyX3_ok, nmX3, rfl, rfl⟩
theorem fpX3_43 : FP RX3 43 3 5 0 false .int := ⟨RX3, TX3, 9, tyX3, rfl, by decide, (mem_g 260 (by decide +kernel) (by decide +kernel)), uwsX3, rfl, tyX3_ok, nmX3, rfl, rfl⟩
theorem fiX3_49 : FI RX3 49 6 2 0 := ⟨RX6, TX6, 7, rfl, by decide, (mem_g 358 (by decide +kernel) (by decide +kernel)), uwsX6, rfl⟩
theorem cvX3_55 : CV RX3 55 yX3_weigh cX3_weigh 8 none 3 := ⟨(mem_g 563 (by decide +kernel) (by decide +kernel)), (mem_g 565 (by decide +kernel) (by decide +kernel)), (mem_g 14 (by decide +kernel) (by decide +kernel)), (mem_g 101 (by decide +kernel) (by decide +kernel)), (mem_g 566 (by decide +kernel) (by decide +kernel)), ⟨by decide +kernel, by decide +kernel, by decide +kernel⟩, by decide⟩
theorem fiX3_46 : FI RX3 46 4 5 0 := ⟨RX4, TX4, 9, rfl, by decide, (mem_g 179 (by decide +kernel) (by decide +kernel)), uwsX4, rfl⟩
theorem fiX3_40 : FI RX3 40 3 4 0 := ⟨RX3, TX3, 9, rfl, by decide, (mem_g 258 (by decide +kernel) (by decide +kernel)), uwsX3, rfl⟩
theorem fiX3_43 : FI RX3 43 3 5 0 := ⟨RX3, TX3, 9, rfl, by decide, (mem_g 260 (by decide +kernel) (by decide +kernel)), uwsX3, rfl⟩
theorem fiX3_22 : FI RX3 22 3 6 1 := ⟨RX3, TX3, 9, rfl, by decide, (mem_g 262 (by decide +kernel) (by decide +kernel)), uwsX3, rfl⟩
theorem fn_108_6 {R : Nat → Nat → Nat} (h : Ph R) : R 108 6 = 112 := h.1 (108, 6, 112) (List.mem_of_getElem? (i := 104) (by decide +kernel))
theorem ln_112 : ln 112 = 3 := by decide +kernel
theorem ad_112 : (112 : Nat) ≠ 0 ∧ 112 ≤ 205 ∧ (sh 112).1 = 0 := by decide +kernel
theorem fiX3_25 : FI RX3 25 3 7 1 := ⟨RX3, TX3, 9, rfl, by decide, (mem_g 264 (by decide +kernel) (by decide +kernel)), uwsX3, rfl⟩
theorem fn_108_7 {R : Nat → Nat → Nat} (h : Ph R) : R 108 7 = 113 := h.1 (108, 7, 113) (List.mem_of_getElem? (i := 105) (by decide +kernel))
theorem ln_113 : ln 113 = 3 := by decide +kernel
theorem ad_113 : (113 : Nat) ≠ 0 ∧ 113 ≤ 205 ∧ (sh 113).1 = 0 := by decide +kernel
theorem fiX3_28 : FI RX3 28 3 8 1 := ⟨RX3, TX3, 9, rfl, by decide, (mem_g 266 (by decide +kernel) (by decide +kernel)), uwsX3, rfl⟩
theorem fn_108_8 {R : Nat → Nat → Nat} (h : Ph R) : R 108 8 = 114 := h.1 (108, 8, 114) (List.mem_of_getElem? (i := 106) (by decide +kernel))
theorem ln_114 : ln 114 = 3 := by decide +kernel
theorem ad_114 : (114 : Nat) ≠ 0 ∧ 114 ≤ 205 ∧ (sh 114).1 = 0 := by decide +kernel
theorem cvX3_73 : CV RX3 73 yX3_touch cX3_touch 5 none 4 := ⟨(mem_g 588 (by decide +kernel) (by decide +kernel)), (mem_g 590 (by decide +kernel) (by decide +kernel)), (mem_g 16 (by decide +kernel) (by decide +kernel)), (mem_g 101 (by decide +kernel) (by decide +kernel)), (mem_g 591 (by decide +kernel) (by decide +kernel)), ⟨by decide +kernel, by decide +kernel, by decide +kernel⟩, by decide⟩
theorem cvX3_59 : CV RX3 59 yX3_begin cX3_begin 4 none 2 := ⟨(mem_g 559 (by decide +kernel) (by decide +kernel)), (mem_g 560 (by decide +kernel) (by decide +kernel)), (mem_g 561 (by decide +kernel) (by decide +kernel)), (mem_g 101 (by decide +kernel) (by decide +kernel)), (mem_g 562 (by decide +kernel) (by decide +kernel)), ⟨by decide +kernel, by decide +kernel, by decide +kernel⟩, by decide⟩
theorem fiX3_63 : FI RX3 63 4 6 0 := ⟨RX4, TX4, 9, rfl, by decide, (mem_g 182 (by decide +kernel) (by decide +kernel)), uwsX4, rfl⟩
theorem cvX3_66 : CV RX3 66 yX3_pull cX3_pull 6 none 3 := ⟨(mem_g 584 (by decide +kernel) (by decide +kernel)), (mem_g 585 (by decide +kernel) (by decide +kernel)), (mem_g 586 (by decide +kernel) (by decide +kernel)), (mem_g 101 (by decide +kernel) (by decide +kernel)), (mem_g 587 (by decide +kernel) (by decide +kernel)), ⟨by decide +kernel, by decide +kernel, by decide +kernel⟩, by decide⟩
theorem fiX3_111 : FI RX3 111 4 8 0 := ⟨RX4, TX4, 9, rfl, by decide, (mem_g 188 (by decide +kernel) (by decide +kernel)), uwsX4, rfl⟩
theorem mmX3_98 : MM RX3 98 Lib.Math.min.name Lib.Math.min.code 2 := ⟨(mem_g 596 (by decide +kernel) (by decide +kernel)), (mem_g 526 (by decide +kernel) (by decide +kernel)), (mem_g 106 (by decide +kernel) (by decide +kernel)), (mem_g 527 (by decide +kernel) (by decide +kernel))⟩
theorem fpX3_111 : FP RX3 111 4 8 0 false .int := ⟨RX4, TX4, 9, tyX4, rfl, by decide, (mem_g 188 (by decide +kernel) (by decide +kernel)), uwsX4, rfl, tyX4_ok, nmX4, rfl, rfl⟩
theorem fpX3_92 : FP RX3 92 4 7 0 false .int := ⟨RX4, TX4, 9, tyX4, rfl, by decide, (mem_g 185 (by decide +kernel) (by decide +kernel)), uwsX4, rfl, tyX4_ok, nmX4, rfl, rfl⟩
theorem cvX3_107 : CV RX3 107 yX4_changePlaces cX4_changePlaces 4 none 2 := ⟨(mem_g 598 (by decide +kernel) (by decide +kernel)), (mem_g 599 (by decide +kernel) (by decide +kernel)), (mem_g 600 (by decide +kernel) (by decide +kernel)), (mem_g 98 (by decide +kernel) (by decide +kernel)), (mem_g 601 (by decide +kernel) (by decide +kernel)), ⟨by decide +kernel, by decide +kernel, by decide +kernel⟩, by decide⟩
theorem mmX3_104 : MM RX3 104 Lib.Math.max.name Lib.Math.max.code 2 := ⟨(mem_g 597 (by decide +kernel) (by decide +kernel)), (mem_g 529 (by decide +kernel) (by decide +kernel)), (mem_g 106 (by decide +kernel) (by decide +kernel)), (mem_g 530 (by decide +kernel) (by decide +kernel))⟩
theorem cvX3_114 : CV RX3 114 yX3_pairOf cX3_pairOf 4 (some .int) 2 := ⟨(mem_g 747 (by decide +kernel) (by decide +kernel)), (mem_g 749 (by decide +kernel) (by decide +kernel)), (mem_g 21 (by decide +kernel) (by decide +kernel)), (mem_g 101 (by decide +kernel) (by decide +kernel)), (mem_g 750 (by decide +kernel) (by decide +kernel)), ⟨by decide +kernel, by decide +kernel, by decide +kernel⟩, by decide⟩
theorem cvX3_118 : CV RX3 118 yX3_bitsOf cX3_bitsOf 4 (some .int) 1 := ⟨(mem_g 714 (by decide +kernel) (by decide +kernel)), (mem_g 716 (by decide +kernel) (by decide +kernel)), (mem_g 20 (by decide +kernel) (by decide +kernel)), (mem_g 101 (by decide +kernel) (by decide +kernel)), (mem_g 717 (by decide +kernel) (by decide +kernel)), ⟨by decide +kernel, by decide +kernel, by decide +kernel⟩, by decide⟩
