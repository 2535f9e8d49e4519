/-! constructors, by program -/
theorem fpX4_9 : FP RX4 9 4 1 1 true (.array .int) := ⟨RX4, TX4, 9, tyX4, rfl, by decide, (mem_t1 73 (by decide +kernel)), uwsX4, rfl, tyX4_ok, nmX4, rfl, rfl⟩
theorem fpX4_15 : FP RX4 15 4 2 1 true (.array .int) := ⟨RX4, TX4, 9, tyX4, rfl, by decide, (mem_t1 76 (by decide +kernel)), uwsX4, rfl, tyX4_ok, nmX4, rfl, rfl⟩
theorem fpX4_18 : FP RX4 18 4 3 1 true (.array .int) := ⟨RX4, TX4, 9, tyX4, rfl, by decide, (mem_t1 79 (by decide +kernel)), uwsX4, rfl, tyX4_ok, nmX4, rfl, rfl⟩
theorem fpX4_21 : FP RX4 21 4 4 1 true (.array .int) := ⟨RX4, TX4, 9, tyX4, rfl, by decide, (mem_t1 81 (by decide +kernel)), uwsX4, rfl, tyX4_ok, nmX4, rfl, rfl⟩
theorem fpX8_9 : FP RX8 9 8 0 1 true (.array .int) := ⟨RX8, TX8, 2, tyX8, rfl, by decide, (mem_t1 36 (by decide +kernel)), uwsX8, rfl, tyX8_ok, nmX8, rfl, rfl⟩
theorem fpX5_9 : FP RX5 9 5 0 1 true (.array .long) := ⟨RX5, TX5, 2, tyX5, rfl, by decide, (mem_t1 54 (by decide +kernel)), uwsX5, rfl, tyX5_ok, nmX5, rfl, rfl⟩
theorem fpX2_11 : FP RX2 11 2 0 1 true (.array (.object "BumpsRiver$River")) := ⟨RX2, TX2, 2, tyX2, rfl, by decide, (mem_t1 124 (by decide +kernel)), uwsX2, rfl, tyX2_ok, nmX2, rfl, rfl⟩
theorem ad_28 : (28 : Nat) ≠ 0 ∧ 28 ≤ 205 ∧ (sh 28).1 = 4 + 10 := by decide +kernel
theorem ad_33 : (33 : Nat) ≠ 0 ∧ 33 ≤ 205 ∧ (sh 33).1 = 4 + 10 := by decide +kernel
theorem ad_38 : (38 : Nat) ≠ 0 ∧ 38 ≤ 205 ∧ (sh 38).1 = 4 + 10 := by decide +kernel
theorem ad_43 : (43 : Nat) ≠ 0 ∧ 43 ≤ 205 ∧ (sh 43).1 = 4 + 10 := by decide +kernel
theorem ad_48 : (48 : Nat) ≠ 0 ∧ 48 ≤ 205 ∧ (sh 48).1 = 4 + 10 := by decide +kernel
theorem ad_53 : (53 : Nat) ≠ 0 ∧ 53 ≤ 205 ∧ (sh 53).1 = 4 + 10 := by decide +kernel
theorem ad_58 : (58 : Nat) ≠ 0 ∧ 58 ≤ 205 ∧ (sh 58).1 = 4 + 10 := by decide +kernel
theorem ad_63 : (63 : Nat) ≠ 0 ∧ 63 ≤ 205 ∧ (sh 63).1 = 4 + 10 := by decide +kernel
theorem ad_68 : (68 : Nat) ≠ 0 ∧ 68 ≤ 205 ∧ (sh 68).1 = 4 + 10 := by decide +kernel
theorem ad_73 : (73 : Nat) ≠ 0 ∧ 73 ≤ 205 ∧ (sh 73).1 = 4 + 10 := by decide +kernel
theorem ad_78 : (78 : Nat) ≠ 0 ∧ 78 ≤ 205 ∧ (sh 78).1 = 4 + 10 := by decide +kernel
theorem ad_83 : (83 : Nat) ≠ 0 ∧ 83 ≤ 205 ∧ (sh 83).1 = 4 + 10 := by decide +kernel
theorem ad_88 : (88 : Nat) ≠ 0 ∧ 88 ≤ 205 ∧ (sh 88).1 = 4 + 10 := by decide +kernel
theorem ad_93 : (93 : Nat) ≠ 0 ∧ 93 ≤ 205 ∧ (sh 93).1 = 4 + 10 := by decide +kernel
theorem ad_98 : (98 : Nat) ≠ 0 ∧ 98 ≤ 205 ∧ (sh 98).1 = 4 + 10 := by decide +kernel
theorem fpX7_9 : FP RX7 9 7 0 1 true (.array .int) := ⟨RX7, TX7, 3, tyX7, rfl, by decide, (mem_t1 138 (by decide +kernel)), uwsX7, rfl, tyX7_ok, nmX7, rfl, rfl⟩
theorem fpX7_15 : FP RX7 15 7 1 1 true (.array .int) := ⟨RX7, TX7, 3, tyX7, rfl, by decide, (mem_t1 140 (by decide +kernel)), uwsX7, rfl, tyX7_ok, nmX7, rfl, rfl⟩
theorem fpX3_9 : FP RX3 9 3 1 1 true (.array .int) := ⟨RX3, TX3, 9, tyX3, rfl, by decide, (mem_t1 159 (by decide +kernel)), uwsX3, rfl, tyX3_ok, nmX3, rfl, rfl⟩
theorem fpX3_15 : FP RX3 15 3 2 1 true (.array .boolean) := ⟨RX3, TX3, 9, tyX3, rfl, by decide, (mem_t1 161 (by decide +kernel)), uwsX3, rfl, tyX3_ok, nmX3, rfl, rfl⟩
theorem fpX3_19 : FP RX3 19 3 3 1 true (.array .int) := ⟨RX3, TX3, 9, tyX3, rfl, by decide, (mem_t1 163 (by decide +kernel)), uwsX3, rfl, tyX3_ok, nmX3, rfl, rfl⟩
theorem fpX3_22 : FP RX3 22 3 6 1 true (.array .int) := ⟨RX3, TX3, 9, tyX3, rfl, by decide, (mem_t1 168 (by decide +kernel)), uwsX3, rfl, tyX3_ok, nmX3, rfl, rfl⟩
theorem fpX3_25 : FP RX3 25 3 7 1 true (.array .int) := ⟨RX3, TX3, 9, tyX3, rfl, by decide, (mem_t1 170 (by decide +kernel)), uwsX3, rfl, tyX3_ok, nmX3, rfl, rfl⟩
theorem fpX3_28 : FP RX3 28 3 8 1 true (.array .int) := ⟨RX3, TX3, 9, tyX3, rfl, by decide, (mem_t1 172 (by decide +kernel)), uwsX3, rfl, tyX3_ok, nmX3, rfl, rfl⟩
theorem fpX1_17 : FP RX1 17 1 5 1 true (.array (.array .int)) := ⟨RX1, TX1, 10, tyX1, rfl, by decide, (mem_t1 209 (by decide +kernel)), uwsX1, rfl, tyX1_ok, nmX1, rfl, rfl⟩
theorem fpX1_20 : FP RX1 20 1 6 1 true (.array .int) := ⟨RX1, TX1, 10, tyX1, rfl, by decide, (mem_t1 210 (by decide +kernel)), uwsX1, rfl, tyX1_ok, nmX1, rfl, rfl⟩
theorem fpX1_24 : FP RX1 24 1 7 1 true (.array .int) := ⟨RX1, TX1, 10, tyX1, rfl, by decide, (mem_t1 211 (by decide +kernel)), uwsX1, rfl, tyX1_ok, nmX1, rfl, rfl⟩
theorem fpX1_27 : FP RX1 27 1 8 1 true (.array .int) := ⟨RX1, TX1, 10, tyX1, rfl, by decide, (mem_t1 213 (by decide +kernel)), uwsX1, rfl, tyX1_ok, nmX1, rfl, rfl⟩
theorem fpX1_30 : FP RX1 30 1 9 1 true (.array .int) := ⟨RX1, TX1, 10, tyX1, rfl, by decide, (mem_t1 214 (by decide +kernel)), uwsX1, rfl, tyX1_ok, nmX1, rfl, rfl⟩
theorem fpX6_11 : FP RX6 11 6 0 1 true (.array .int) := ⟨RX6, TX6, 7, tyX6, rfl, by decide, (mem_t2 21 (by decide +kernel)), uwsX6, rfl, tyX6_ok, nmX6, rfl, rfl⟩
theorem fpX6_15 : FP RX6 15 6 3 1 true (.array .int) := ⟨RX6, TX6, 7, tyX6, rfl, by decide, (mem_t2 25 (by decide +kernel)), uwsX6, rfl, tyX6_ok, nmX6, rfl, rfl⟩
theorem fpX6_18 : FP RX6 18 6 4 1 true (.array .int) := ⟨RX6, TX6, 7, tyX6, rfl, by decide, (mem_t2 27 (by decide +kernel)), uwsX6, rfl, tyX6_ok, nmX6, rfl, rfl⟩
theorem fpX6_21 : FP RX6 21 6 5 1 true (.object "BumpsRiver$Text") := ⟨RX6, TX6, 7, tyX6, rfl, by decide, (mem_t2 28 (by decide +kernel)), uwsX6, rfl, tyX6_ok, nmX6, rfl, rfl⟩
theorem fpX9_10 : FP RX9 10 9 0 1 true (.object "BumpsRiver$Text") := ⟨RX9, TX9, 19, tyX9, rfl, by decide, (mem_t2 45 (by decide +kernel)), uwsX9, rfl, tyX9_ok, nmX9, rfl, rfl⟩
theorem fpX9_19 : FP RX9 19 9 1 1 true (.object "BumpsRiver$Row") := ⟨RX9, TX9, 19, tyX9, rfl, by decide, (mem_t2 46 (by decide +kernel)), uwsX9, rfl, tyX9_ok, nmX9, rfl, rfl⟩
theorem fpX9_26 : FP RX9 26 9 2 1 true (.object "BumpsRiver$River") := ⟨RX9, TX9, 19, tyX9, rfl, by decide, (mem_t2 47 (by decide +kernel)), uwsX9, rfl, tyX9_ok, nmX9, rfl, rfl⟩
theorem fpX9_30 : FP RX9 30 9 3 1 true (.object "BumpsRiver$River") := ⟨RX9, TX9, 19, tyX9, rfl, by decide, (mem_t2 48 (by decide +kernel)), uwsX9, rfl, tyX9_ok, nmX9, rfl, rfl⟩
theorem fpX9_33 : FP RX9 33 9 4 1 true (.object "BumpsRiver$River") := ⟨RX9, TX9, 19, tyX9, rfl, by decide, (mem_t2 49 (by decide +kernel)), uwsX9, rfl, tyX9_ok, nmX9, rfl, rfl⟩
theorem fpX9_36 : FP RX9 36 9 5 1 true (.object "BumpsRiver$River") := ⟨RX9, TX9, 19, tyX9, rfl, by decide, (mem_t2 50 (by decide +kernel)), uwsX9, rfl, tyX9_ok, nmX9, rfl, rfl⟩
theorem fpX9_42 : FP RX9 42 9 6 1 true (.object "BumpsRiver$Past") := ⟨RX9, TX9, 19, tyX9, rfl, by decide, (mem_t2 51 (by decide +kernel)), uwsX9, rfl, tyX9_ok, nmX9, rfl, rfl⟩
theorem fpX9_46 : FP RX9 46 9 7 1 true (.array (.object "BumpsRiver$River")) := ⟨RX9, TX9, 19, tyX9, rfl, by decide, (mem_t2 52 (by decide +kernel)), uwsX9, rfl, tyX9_ok, nmX9, rfl, rfl⟩
theorem fpX9_50 : FP RX9 50 9 8 1 true (.array .boolean) := ⟨RX9, TX9, 19, tyX9, rfl, by decide, (mem_t2 53 (by decide +kernel)), uwsX9, rfl, tyX9_ok, nmX9, rfl, rfl⟩
theorem fpX9_57 : FP RX9 57 9 9 1 true (.object "BumpsRiver$Rumours") := ⟨RX9, TX9, 19, tyX9, rfl, by decide, (mem_t2 54 (by decide +kernel)), uwsX9, rfl, tyX9_ok, nmX9, rfl, rfl⟩
theorem fpX9_64 : FP RX9 64 9 10 1 true (.object "BumpsRiver$Race") := ⟨RX9, TX9, 19, tyX9, rfl, by decide, (mem_t2 55 (by decide +kernel)), uwsX9, rfl, tyX9_ok, nmX9, rfl, rfl⟩
theorem fpX9_71 : FP RX9 71 9 11 1 true (.object "BumpsRiver$Lawful") := ⟨RX9, TX9, 19, tyX9, rfl, by decide, (mem_t2 56 (by decide +kernel)), uwsX9, rfl, tyX9_ok, nmX9, rfl, rfl⟩
theorem fpX9_78 : FP RX9 78 9 12 1 true (.object "BumpsRiver$Draws") := ⟨RX9, TX9, 19, tyX9, rfl, by decide, (mem_t2 57 (by decide +kernel)), uwsX9, rfl, tyX9_ok, nmX9, rfl, rfl⟩
theorem fpX9_82 : FP RX9 82 9 13 1 true (.array .int) := ⟨RX9, TX9, 19, tyX9, rfl, by decide, (mem_t2 58 (by decide +kernel)), uwsX9, rfl, tyX9_ok, nmX9, rfl, rfl⟩
theorem fpX9_86 : FP RX9 86 9 14 1 true (.array .int) := ⟨RX9, TX9, 19, tyX9, rfl, by decide, (mem_t2 59 (by decide +kernel)), uwsX9, rfl, tyX9_ok, nmX9, rfl, rfl⟩
theorem fpX9_89 : FP RX9 89 9 15 1 true (.array .int) := ⟨RX9, TX9, 19, tyX9, rfl, by decide, (mem_t2 60 (by decide +kernel)), uwsX9, rfl, tyX9_ok, nmX9, rfl, rfl⟩
theorem fpX9_92 : FP RX9 92 9 16 1 true (.array .boolean) := ⟨RX9, TX9, 19, tyX9, rfl, by decide, (mem_t2 61 (by decide +kernel)), uwsX9, rfl, tyX9_ok, nmX9, rfl, rfl⟩
theorem ad_146 : (146 : Nat) ≠ 0 ∧ 146 ≤ 205 ∧ (sh 146).1 = 6 + 10 := by decide +kernel
theorem ad_150 : (150 : Nat) ≠ 0 ∧ 150 ≤ 205 ∧ (sh 150).1 = 6 + 10 := by decide +kernel
theorem ad_154 : (154 : Nat) ≠ 0 ∧ 154 ≤ 205 ∧ (sh 154).1 = 4 + 10 := by decide +kernel
theorem ad_159 : (159 : Nat) ≠ 0 ∧ 159 ≤ 205 ∧ (sh 159).1 = 4 + 10 := by decide +kernel
theorem ad_164 : (164 : Nat) ≠ 0 ∧ 164 ≤ 205 ∧ (sh 164).1 = 4 + 10 := by decide +kernel
theorem fpX10_11 : FP RX10 11 10 2 1 true (.array .long) := ⟨RX10, TX10, 54, tyX10, rfl, by decide, (mem_t5 55 (by decide +kernel)), uwsX10, rfl, tyX10_ok, nmX10, rfl, rfl⟩
theorem fpX10_24 : FP RX10 24 10 5 1 true (.array .int) := ⟨RX10, TX10, 54, tyX10, rfl, by decide, (mem_t5 58 (by decide +kernel)), uwsX10, rfl, tyX10_ok, nmX10, rfl, rfl⟩
theorem fpX10_28 : FP RX10 28 10 6 1 true (.array .int) := ⟨RX10, TX10, 54, tyX10, rfl, by decide, (mem_t5 59 (by decide +kernel)), uwsX10, rfl, tyX10_ok, nmX10, rfl, rfl⟩
theorem fpX10_31 : FP RX10 31 10 7 1 true (.array .int) := ⟨RX10, TX10, 54, tyX10, rfl, by decide, (mem_t5 60 (by decide +kernel)), uwsX10, rfl, tyX10_ok, nmX10, rfl, rfl⟩
theorem fpX10_34 : FP RX10 34 10 12 1 true (.array .int) := ⟨RX10, TX10, 54, tyX10, rfl, by decide, (mem_t5 65 (by decide +kernel)), uwsX10, rfl, tyX10_ok, nmX10, rfl, rfl⟩
theorem fpX10_37 : FP RX10 37 10 14 1 true (.array .int) := ⟨RX10, TX10, 54, tyX10, rfl, by decide, (mem_t5 67 (by decide +kernel)), uwsX10, rfl, tyX10_ok, nmX10, rfl, rfl⟩
theorem fpX10_40 : FP RX10 40 10 15 1 true (.array .int) := ⟨RX10, TX10, 54, tyX10, rfl, by decide, (mem_t5 68 (by decide +kernel)), uwsX10, rfl, tyX10_ok, nmX10, rfl, rfl⟩
theorem fpX10_43 : FP RX10 43 10 18 1 true (.array .int) := ⟨RX10, TX10, 54, tyX10, rfl, by decide, (mem_t5 71 (by decide +kernel)), uwsX10, rfl, tyX10_ok, nmX10, rfl, rfl⟩
theorem fpX10_46 : FP RX10 46 10 19 1 true (.array .int) := ⟨RX10, TX10, 54, tyX10, rfl, by decide, (mem_t5 72 (by decide +kernel)), uwsX10, rfl, tyX10_ok, nmX10, rfl, rfl⟩
theorem fpX10_49 : FP RX10 49 10 20 1 true (.array .int) := ⟨RX10, TX10, 54, tyX10, rfl, by decide, (mem_t5 73 (by decide +kernel)), uwsX10, rfl, tyX10_ok, nmX10, rfl, rfl⟩
theorem fpX10_52 : FP RX10 52 10 21 1 true (.array .int) := ⟨RX10, TX10, 54, tyX10, rfl, by decide, (mem_t5 74 (by decide +kernel)), uwsX10, rfl, tyX10_ok, nmX10, rfl, rfl⟩
theorem fpX10_55 : FP RX10 55 10 22 1 true (.array .int) := ⟨RX10, TX10, 54, tyX10, rfl, by decide, (mem_t5 75 (by decide +kernel)), uwsX10, rfl, tyX10_ok, nmX10, rfl, rfl⟩
theorem fpX10_58 : FP RX10 58 10 24 1 true (.array .int) := ⟨RX10, TX10, 54, tyX10, rfl, by decide, (mem_t5 77 (by decide +kernel)), uwsX10, rfl, tyX10_ok, nmX10, rfl, rfl⟩
theorem fpX10_61 : FP RX10 61 10 25 1 true (.array .int) := ⟨RX10, TX10, 54, tyX10, rfl, by decide, (mem_t5 78 (by decide +kernel)), uwsX10, rfl, tyX10_ok, nmX10, rfl, rfl⟩
theorem fpX10_64 : FP RX10 64 10 26 1 true (.array .int) := ⟨RX10, TX10, 54, tyX10, rfl, by decide, (mem_t5 79 (by decide +kernel)), uwsX10, rfl, tyX10_ok, nmX10, rfl, rfl⟩
theorem fpX10_67 : FP RX10 67 10 29 1 true (.array .int) := ⟨RX10, TX10, 54, tyX10, rfl, by decide, (mem_t5 82 (by decide +kernel)), uwsX10, rfl, tyX10_ok, nmX10, rfl, rfl⟩
theorem fpX10_70 : FP RX10 70 10 31 1 true (.array .int) := ⟨RX10, TX10, 54, tyX10, rfl, by decide, (mem_t5 84 (by decide +kernel)), uwsX10, rfl, tyX10_ok, nmX10, rfl, rfl⟩
theorem fpX10_73 : FP RX10 73 10 32 1 true (.array .int) := ⟨RX10, TX10, 54, tyX10, rfl, by decide, (mem_t5 85 (by decide +kernel)), uwsX10, rfl, tyX10_ok, nmX10, rfl, rfl⟩
theorem fpX10_76 : FP RX10 76 10 33 1 true (.array .int) := ⟨RX10, TX10, 54, tyX10, rfl, by decide, (mem_t5 86 (by decide +kernel)), uwsX10, rfl, tyX10_ok, nmX10, rfl, rfl⟩
theorem fpX10_79 : FP RX10 79 10 35 1 true (.array .int) := ⟨RX10, TX10, 54, tyX10, rfl, by decide, (mem_t5 88 (by decide +kernel)), uwsX10, rfl, tyX10_ok, nmX10, rfl, rfl⟩
theorem fpX10_82 : FP RX10 82 10 36 1 true (.array .int) := ⟨RX10, TX10, 54, tyX10, rfl, by decide, (mem_t5 89 (by decide +kernel)), uwsX10, rfl, tyX10_ok, nmX10, rfl, rfl⟩
theorem fpX10_85 : FP RX10 85 10 37 1 true (.array .boolean) := ⟨RX10, TX10, 54, tyX10, rfl, by decide, (mem_t5 90 (by decide +kernel)), uwsX10, rfl, tyX10_ok, nmX10, rfl, rfl⟩
theorem fpX10_89 : FP RX10 89 10 38 1 true (.array .int) := ⟨RX10, TX10, 54, tyX10, rfl, by decide, (mem_t5 91 (by decide +kernel)), uwsX10, rfl, tyX10_ok, nmX10, rfl, rfl⟩
theorem fpX10_92 : FP RX10 92 10 39 1 true (.array .int) := ⟨RX10, TX10, 54, tyX10, rfl, by decide, (mem_t5 92 (by decide +kernel)), uwsX10, rfl, tyX10_ok, nmX10, rfl, rfl⟩
theorem fpX10_95 : FP RX10 95 10 41 1 true (.array .int) := ⟨RX10, TX10, 54, tyX10, rfl, by decide, (mem_t5 94 (by decide +kernel)), uwsX10, rfl, tyX10_ok, nmX10, rfl, rfl⟩
theorem fpX10_98 : FP RX10 98 10 42 1 true (.array .int) := ⟨RX10, TX10, 54, tyX10, rfl, by decide, (mem_t5 95 (by decide +kernel)), uwsX10, rfl, tyX10_ok, nmX10, rfl, rfl⟩
theorem fpX10_101 : FP RX10 101 10 43 1 true (.array .int) := ⟨RX10, TX10, 54, tyX10, rfl, by decide, (mem_t5 96 (by decide +kernel)), uwsX10, rfl, tyX10_ok, nmX10, rfl, rfl⟩
theorem fpX10_104 : FP RX10 104 10 44 1 true (.array .int) := ⟨RX10, TX10, 54, tyX10, rfl, by decide, (mem_t5 97 (by decide +kernel)), uwsX10, rfl, tyX10_ok, nmX10, rfl, rfl⟩
theorem fpX10_107 : FP RX10 107 10 46 1 true (.array .int) := ⟨RX10, TX10, 54, tyX10, rfl, by decide, (mem_t5 99 (by decide +kernel)), uwsX10, rfl, tyX10_ok, nmX10, rfl, rfl⟩
theorem fpX10_110 : FP RX10 110 10 47 1 true (.array .int) := ⟨RX10, TX10, 54, tyX10, rfl, by decide, (mem_t5 100 (by decide +kernel)), uwsX10, rfl, tyX10_ok, nmX10, rfl, rfl⟩
theorem fpX10_113 : FP RX10 113 10 48 1 true (.array .int) := ⟨RX10, TX10, 54, tyX10, rfl, by decide, (mem_t5 101 (by decide +kernel)), uwsX10, rfl, tyX10_ok, nmX10, rfl, rfl⟩
theorem fpX10_116 : FP RX10 116 10 49 1 true (.array .int) := ⟨RX10, TX10, 54, tyX10, rfl, by decide, (mem_t5 102 (by decide +kernel)), uwsX10, rfl, tyX10_ok, nmX10, rfl, rfl⟩
theorem fpX10_119 : FP RX10 119 10 51 1 true (.array .boolean) := ⟨RX10, TX10, 54, tyX10, rfl, by decide, (mem_t5 104 (by decide +kernel)), uwsX10, rfl, tyX10_ok, nmX10, rfl, rfl⟩
theorem fpX10_122 : FP RX10 122 10 52 1 true (.array .int) := ⟨RX10, TX10, 54, tyX10, rfl, by decide, (mem_t5 105 (by decide +kernel)), uwsX10, rfl, tyX10_ok, nmX10, rfl, rfl⟩
theorem fpX10_125 : FP RX10 125 10 53 1 true (.array .int) := ⟨RX10, TX10, 54, tyX10, rfl, by decide, (mem_t5 106 (by decide +kernel)), uwsX10, rfl, tyX10_ok, nmX10, rfl, rfl⟩
theorem olX4_3 : Cond.methodLink RX4 3 Lib.objectInit ∈ gtbl := (mem_t1 69 (by decide +kernel))
theorem oi_obj : Cond.instanceMethod Lib.objectInit ∈ gtbl := (mem_t1 28 (by decide +kernel))
theorem oc_obj : Cond.code Lib.objectInit ⟨#[0xb1]⟩ 1 none ∈ gtbl := (mem_t1 29 (by decide +kernel))
theorem ac_I : Cond.arrayClass .int ∈ gtbl := (mem_t1 47 (by decide +kernel))
theorem olX8_3 : Cond.methodLink RX8 3 Lib.objectInit ∈ gtbl := (mem_t1 35 (by decide +kernel))
theorem olX5_3 : Cond.methodLink RX5 3 Lib.objectInit ∈ gtbl := (mem_t1 53 (by decide +kernel))
theorem ac_J : Cond.arrayClass .long ∈ gtbl := (mem_t1 63 (by decide +kernel))
theorem olX2_3 : Cond.methodLink RX2 3 Lib.objectInit ∈ gtbl := (mem_t1 120 (by decide +kernel))
theorem rlX2_9 : Cond.classLink RX2 9 "BumpsRiver$River" ∈ gtbl := (mem_t1 121 (by decide +kernel))
theorem niX2_9 : NI RX2 9 4 9 := ⟨RX4, TX4, tyX4, rfl, (mem_t1 121 (by decide +kernel)), (mem_t1 65 (by decide +kernel)), (mem_t1 4 (by decide +kernel)), uwsX4, tyX4_ok, rfl, by decide +kernel⟩
theorem ciX2_17 : CI RX2 17 yX4_init cX4_init 1 0 := ⟨(mem_t1 123 (by decide +kernel)), (mem_t1 67 (by decide +kernel)), rfl, (mem_t1 4 (by decide +kernel)), (mem_t1 68 (by decide +kernel)), ⟨by decide +kernel, by decide +kernel, by decide +kernel⟩, by decide⟩
theorem olX7_3 : Cond.methodLink RX7 3 Lib.objectInit ∈ gtbl := (mem_t1 137 (by decide +kernel))
theorem olX3_3 : Cond.methodLink RX3 3 Lib.objectInit ∈ gtbl := (mem_t1 157 (by decide +kernel))
theorem ac_Z : Cond.arrayClass .boolean ∈ gtbl := (mem_t1 151 (by decide +kernel))
theorem olX1_3 : Cond.methodLink RX1 3 Lib.objectInit ∈ gtbl := (mem_t1 198 (by decide +kernel))
theorem mlX1_15 : Cond.classLink RX1 15 "[[I" ∈ gtbl := (mem_t1 199 (by decide +kernel))
theorem olX0_1 : Cond.methodLink RX0 1 Lib.objectInit ∈ gtbl := (mem_t2 1 (by decide +kernel))
theorem olX6_5 : Cond.methodLink RX6 5 Lib.objectInit ∈ gtbl := (mem_t2 12 (by decide +kernel))
theorem olX9_1 : Cond.methodLink RX9 1 Lib.objectInit ∈ gtbl := (mem_t1 27 (by decide +kernel))
theorem niX9_7 : NI RX9 7 8 2 := ⟨RX8, TX8, tyX8, rfl, (mem_t1 30 (by decide +kernel)), (mem_t1 31 (by decide +kernel)), (mem_t1 2 (by decide +kernel)), uwsX8, tyX8_ok, rfl, by decide +kernel⟩
theorem ciX9_9 : CI RX9 9 yX8_init cX8_init 1 0 := ⟨(mem_t1 32 (by decide +kernel)), (mem_t1 33 (by decide +kernel)), rfl, (mem_t1 2 (by decide +kernel)), (mem_t1 34 (by decide +kernel)), ⟨by decide +kernel, by decide +kernel, by decide +kernel⟩, by decide⟩
theorem niX9_16 : NI RX9 16 5 2 := ⟨RX5, TX5, tyX5, rfl, (mem_t1 48 (by decide +kernel)), (mem_t1 49 (by decide +kernel)), (mem_t1 3 (by decide +kernel)), uwsX5, tyX5_ok, rfl, by decide +kernel⟩
theorem ciX9_18 : CI RX9 18 yX5_init cX5_init 1 0 := ⟨(mem_t1 50 (by decide +kernel)), (mem_t1 51 (by decide +kernel)), rfl, (mem_t1 3 (by decide +kernel)), (mem_t1 52 (by decide +kernel)), ⟨by decide +kernel, by decide +kernel, by decide +kernel⟩, by decide⟩
theorem niX9_23 : NI RX9 23 4 9 := ⟨RX4, TX4, tyX4, rfl, (mem_t1 64 (by decide +kernel)), (mem_t1 65 (by decide +kernel)), (mem_t1 4 (by decide +kernel)), uwsX4, tyX4_ok, rfl, by decide +kernel⟩
theorem ciX9_25 : CI RX9 25 yX4_init cX4_init 1 0 := ⟨(mem_t1 66 (by decide +kernel)), (mem_t1 67 (by decide +kernel)), rfl, (mem_t1 4 (by decide +kernel)), (mem_t1 68 (by decide +kernel)), ⟨by decide +kernel, by decide +kernel, by decide +kernel⟩, by decide⟩
theorem niX9_39 : NI RX9 39 2 2 := ⟨RX2, TX2, tyX2, rfl, (mem_t1 115 (by decide +kernel)), (mem_t1 116 (by decide +kernel)), (mem_t1 5 (by decide +kernel)), uwsX2, tyX2_ok, rfl, by decide +kernel⟩
theorem ciX9_41 : CI RX9 41 yX2_init cX2_init 2 0 := ⟨(mem_t1 117 (by decide +kernel)), (mem_t1 118 (by decide +kernel)), rfl, (mem_t1 5 (by decide +kernel)), (mem_t1 119 (by decide +kernel)), ⟨by decide +kernel, by decide +kernel, by decide +kernel⟩, by decide⟩
theorem rlX9_23 : Cond.classLink RX9 23 "BumpsRiver$River" ∈ gtbl := (mem_t1 64 (by decide +kernel))
theorem niX9_54 : NI RX9 54 7 3 := ⟨RX7, TX7, tyX7, rfl, (mem_t1 132 (by decide +kernel)), (mem_t1 133 (by decide +kernel)), (mem_t1 6 (by decide +kernel)), uwsX7, tyX7_ok, rfl, by decide +kernel⟩
theorem ciX9_56 : CI RX9 56 yX7_init cX7_init 1 0 := ⟨(mem_t1 134 (by decide +kernel)), (mem_t1 135 (by decide +kernel)), rfl, (mem_t1 6 (by decide +kernel)), (mem_t1 136 (by decide +kernel)), ⟨by decide +kernel, by decide +kernel, by decide +kernel⟩, by decide⟩
theorem niX9_61 : NI RX9 61 3 9 := ⟨RX3, TX3, tyX3, rfl, (mem_t1 152 (by decide +kernel)), (mem_t1 153 (by decide +kernel)), (mem_t1 7 (by decide +kernel)), uwsX3, tyX3_ok, rfl, by decide +kernel⟩
theorem ciX9_63 : CI RX9 63 yX3_init cX3_init 1 0 := ⟨(mem_t1 154 (by decide +kernel)), (mem_t1 155 (by decide +kernel)), rfl, (mem_t1 7 (by decide +kernel)), (mem_t1 156 (by decide +kernel)), ⟨by decide +kernel, by decide +kernel, by decide +kernel⟩, by decide⟩
theorem niX9_68 : NI RX9 68 1 10 := ⟨RX1, TX1, tyX1, rfl, (mem_t1 193 (by decide +kernel)), (mem_t1 194 (by decide +kernel)), (mem_t1 8 (by decide +kernel)), uwsX1, tyX1_ok, rfl, by decide +kernel⟩
theorem ciX9_70 : CI RX9 70 yX1_init cX1_init 1 0 := ⟨(mem_t1 195 (by decide +kernel)), (mem_t1 196 (by decide +kernel)), rfl, (mem_t1 8 (by decide +kernel)), (mem_t1 197 (by decide +kernel)), ⟨by decide +kernel, by decide +kernel, by decide +kernel⟩, by decide⟩
theorem niX9_75 : NI RX9 75 0 1 := ⟨RX0, TX0, tyX0, rfl, (mem_t1 236 (by decide +kernel)), (mem_t1 237 (by decide +kernel)), (mem_t1 9 (by decide +kernel)), uwsX0, tyX0_ok, rfl, by decide +kernel⟩
theorem ciX9_77 : CI RX9 77 yX0_init cX0_init 1 0 := ⟨(mem_t1 238 (by decide +kernel)), (mem_t1 239 (by decide +kernel)), rfl, (mem_t1 9 (by decide +kernel)), (mem_t2 0 (by decide +kernel)), ⟨by decide +kernel, by decide +kernel, by decide +kernel⟩, by decide⟩
theorem niX9_95 : NI RX9 95 6 7 := ⟨RX6, TX6, tyX6, rfl, (mem_t2 7 (by decide +kernel)), (mem_t2 8 (by decide +kernel)), (mem_t1 10 (by decide +kernel)), uwsX6, tyX6_ok, rfl, by decide +kernel⟩
theorem ciX9_97 : CI RX9 97 yX6_init cX6_init 2 1 := ⟨(mem_t2 9 (by decide +kernel)), (mem_t2 10 (by decide +kernel)), rfl, (mem_t1 10 (by decide +kernel)), (mem_t2 11 (by decide +kernel)), ⟨by decide +kernel, by decide +kernel, by decide +kernel⟩, by decide⟩
theorem olX10_18 : Cond.methodLink RX10 18 Lib.objectInit ∈ gtbl := (mem_t5 52 (by decide +kernel))
theorem dX4_init_0 : decode cX4_init 0 = .ok (.aload_n 0, 1) := by decide +kernel
theorem dX4_init_1 : decode cX4_init 1 = .ok (.invokespecial 3, 3) := by decide +kernel
theorem dX4_init_4 : decode cX4_init 4 = .ok (.aload_n 0, 1) := by decide +kernel
theorem dX4_init_5 : decode cX4_init 5 = .ok (.bipush 6, 2) := by decide +kernel
theorem dX4_init_7 : decode cX4_init 7 = .ok (.newarray .int, 2) := by decide +kernel
theorem dX4_init_9 : decode cX4_init 9 = .ok (.putfield 9, 3) := by decide +kernel
theorem dX4_init_12 : decode cX4_init 12 = .ok (.aload_n 0, 1) := by decide +kernel
theorem dX4_init_13 : decode cX4_init 13 = .ok (.bipush 6, 2) := by decide +kernel
theorem dX4_init_15 : decode cX4_init 15 = .ok (.newarray .int, 2) := by decide +kernel
theorem dX4_init_17 : decode cX4_init 17 = .ok (.putfield 15, 3) := by decide +kernel
theorem dX4_init_20 : decode cX4_init 20 = .ok (.aload_n 0, 1) := by decide +kernel
theorem dX4_init_21 : decode cX4_init 21 = .ok (.bipush 6, 2) := by decide +kernel
theorem dX4_init_23 : decode cX4_init 23 = .ok (.newarray .int, 2) := by decide +kernel
theorem dX4_init_25 : decode cX4_init 25 = .ok (.putfield 18, 3) := by decide +kernel
theorem dX4_init_28 : decode cX4_init 28 = .ok (.aload_n 0, 1) := by decide +kernel
theorem dX4_init_29 : decode cX4_init 29 = .ok (.bipush 6, 2) := by decide +kernel
theorem dX4_init_31 : decode cX4_init 31 = .ok (.newarray .int, 2) := by decide +kernel
theorem dX4_init_33 : decode cX4_init 33 = .ok (.putfield 21, 3) := by decide +kernel
theorem dX4_init_36 : decode cX4_init 36 = .ok (.aload_n 0, 1) := by decide +kernel
theorem dX4_init_37 : decode cX4_init 37 = .ok (.bipush 9, 2) := by decide +kernel
theorem dX4_init_39 : decode cX4_init 39 = .ok (.putfield 24, 3) := by decide +kernel
theorem dX4_init_42 : decode cX4_init 42 = .ok (.aload_n 0, 1) := by decide +kernel
theorem dX4_init_43 : decode cX4_init 43 = .ok (.bipush 20, 2) := by decide +kernel
theorem dX4_init_45 : decode cX4_init 45 = .ok (.putfield 28, 3) := by decide +kernel
theorem dX4_init_48 : decode cX4_init 48 = .ok (.return_, 1) := by decide +kernel
theorem dX8_init_0 : decode cX8_init 0 = .ok (.aload_n 0, 1) := by decide +kernel
theorem dX8_init_1 : decode cX8_init 1 = .ok (.invokespecial 3, 3) := by decide +kernel
theorem dX8_init_4 : decode cX8_init 4 = .ok (.aload_n 0, 1) := by decide +kernel
theorem dX8_init_5 : decode cX8_init 5 = .ok (.bipush 80, 2) := by decide +kernel
theorem dX8_init_7 : decode cX8_init 7 = .ok (.newarray .int, 2) := by decide +kernel
theorem dX8_init_9 : decode cX8_init 9 = .ok (.putfield 9, 3) := by decide +kernel
theorem dX8_init_12 : decode cX8_init 12 = .ok (.return_, 1) := by decide +kernel
theorem dX5_init_0 : decode cX5_init 0 = .ok (.aload_n 0, 1) := by decide +kernel
theorem dX5_init_1 : decode cX5_init 1 = .ok (.invokespecial 3, 3) := by decide +kernel
theorem dX5_init_4 : decode cX5_init 4 = .ok (.aload_n 0, 1) := by decide +kernel
theorem dX5_init_5 : decode cX5_init 5 = .ok (.bipush 16, 2) := by decide +kernel
theorem dX5_init_7 : decode cX5_init 7 = .ok (.newarray .long, 2) := by decide +kernel
theorem dX5_init_9 : decode cX5_init 9 = .ok (.putfield 9, 3) := by decide +kernel
theorem dX5_init_12 : decode cX5_init 12 = .ok (.return_, 1) := by decide +kernel
theorem dX2_init_0 : decode cX2_init 0 = .ok (.aload_n 0, 1) := by decide +kernel
theorem dX2_init_1 : decode cX2_init 1 = .ok (.invokespecial 3, 3) := by decide +kernel
theorem dX2_init_4 : decode cX2_init 4 = .ok (.aload_n 0, 1) := by decide +kernel
theorem dX2_init_5 : decode cX2_init 5 = .ok (.bipush 15, 2) := by decide +kernel
theorem dX2_init_7 : decode cX2_init 7 = .ok (.anewarray 9, 3) := by decide +kernel
theorem dX2_init_10 : decode cX2_init 10 = .ok (.putfield 11, 3) := by decide +kernel
theorem dX2_init_13 : decode cX2_init 13 = .ok (.iconst 0, 1) := by decide +kernel
theorem dX2_init_14 : decode cX2_init 14 = .ok (.istore_n 1, 1) := by decide +kernel
theorem dX2_init_15 : decode cX2_init 15 = .ok (.iload_n 1, 1) := by decide +kernel
theorem dX2_init_16 : decode cX2_init 16 = .ok (.bipush 15, 2) := by decide +kernel
theorem dX2_init_18 : decode cX2_init 18 = .ok (.if_icmp .ge 22, 3) := by decide +kernel
theorem dX2_init_21 : decode cX2_init 21 = .ok (.aload_n 0, 1) := by decide +kernel
theorem dX2_init_22 : decode cX2_init 22 = .ok (.getfield 11, 3) := by decide +kernel
theorem dX2_init_25 : decode cX2_init 25 = .ok (.iload_n 1, 1) := by decide +kernel
theorem dX2_init_26 : decode cX2_init 26 = .ok (.new 9, 3) := by decide +kernel
theorem dX2_init_29 : decode cX2_init 29 = .ok (.dup, 1) := by decide +kernel
theorem dX2_init_30 : decode cX2_init 30 = .ok (.invokespecial 17, 3) := by decide +kernel
theorem dX2_init_33 : decode cX2_init 33 = .ok (.aastore, 1) := by decide +kernel
theorem dX2_init_34 : decode cX2_init 34 = .ok (.iinc 1 1, 3) := by decide +kernel
theorem dX2_init_37 : decode cX2_init 37 = .ok (.goto (-22), 3) := by decide +kernel
theorem dX2_init_40 : decode cX2_init 40 = .ok (.return_, 1) := by decide +kernel
theorem dX7_init_0 : decode cX7_init 0 = .ok (.aload_n 0, 1) := by decide +kernel
theorem dX7_init_1 : decode cX7_init 1 = .ok (.invokespecial 3, 3) := by decide +kernel
theorem dX7_init_4 : decode cX7_init 4 = .ok (.aload_n 0, 1) := by decide +kernel
theorem dX7_init_5 : decode cX7_init 5 = .ok (.bipush 12, 2) := by decide +kernel
theorem dX7_init_7 : decode cX7_init 7 = .ok (.newarray .int, 2) := by decide +kernel
theorem dX7_init_9 : decode cX7_init 9 = .ok (.putfield 9, 3) := by decide +kernel
theorem dX7_init_12 : decode cX7_init 12 = .ok (.aload_n 0, 1) := by decide +kernel
theorem dX7_init_13 : decode cX7_init 13 = .ok (.bipush 12, 2) := by decide +kernel
theorem dX7_init_15 : decode cX7_init 15 = .ok (.newarray .int, 2) := by decide +kernel
theorem dX7_init_17 : decode cX7_init 17 = .ok (.putfield 15, 3) := by decide +kernel
theorem dX7_init_20 : decode cX7_init 20 = .ok (.return_, 1) := by decide +kernel
theorem dX3_init_0 : decode cX3_init 0 = .ok (.aload_n 0, 1) := by decide +kernel
theorem dX3_init_1 : decode cX3_init 1 = .ok (.invokespecial 3, 3) := by decide +kernel
theorem dX3_init_4 : decode cX3_init 4 = .ok (.aload_n 0, 1) := by decide +kernel
theorem dX3_init_5 : decode cX3_init 5 = .ok (.bipush 6, 2) := by decide +kernel
theorem dX3_init_7 : decode cX3_init 7 = .ok (.newarray .int, 2) := by decide +kernel
theorem dX3_init_9 : decode cX3_init 9 = .ok (.putfield 9, 3) := by decide +kernel
theorem dX3_init_12 : decode cX3_init 12 = .ok (.aload_n 0, 1) := by decide +kernel
theorem dX3_init_13 : decode cX3_init 13 = .ok (.bipush 6, 2) := by decide +kernel
theorem dX3_init_15 : decode cX3_init 15 = .ok (.newarray .boolean, 2) := by decide +kernel
theorem dX3_init_17 : decode cX3_init 17 = .ok (.putfield 15, 3) := by decide +kernel
theorem dX3_init_20 : decode cX3_init 20 = .ok (.aload_n 0, 1) := by decide +kernel
theorem dX3_init_21 : decode cX3_init 21 = .ok (.bipush 6, 2) := by decide +kernel
theorem dX3_init_23 : decode cX3_init 23 = .ok (.newarray .int, 2) := by decide +kernel
theorem dX3_init_25 : decode cX3_init 25 = .ok (.putfield 19, 3) := by decide +kernel
theorem dX3_init_28 : decode cX3_init 28 = .ok (.aload_n 0, 1) := by decide +kernel
theorem dX3_init_29 : decode cX3_init 29 = .ok (.iconst 3, 1) := by decide +kernel
theorem dX3_init_30 : decode cX3_init 30 = .ok (.newarray .int, 2) := by decide +kernel
theorem dX3_init_32 : decode cX3_init 32 = .ok (.putfield 22, 3) := by decide +kernel
theorem dX3_init_35 : decode cX3_init 35 = .ok (.aload_n 0, 1) := by decide +kernel
theorem dX3_init_36 : decode cX3_init 36 = .ok (.iconst 3, 1) := by decide +kernel
theorem dX3_init_37 : decode cX3_init 37 = .ok (.newarray .int, 2) := by decide +kernel
theorem dX3_init_39 : decode cX3_init 39 = .ok (.putfield 25, 3) := by decide +kernel
theorem dX3_init_42 : decode cX3_init 42 = .ok (.aload_n 0, 1) := by decide +kernel
theorem dX3_init_43 : decode cX3_init 43 = .ok (.iconst 3, 1) := by decide +kernel
theorem dX3_init_44 : decode cX3_init 44 = .ok (.newarray .int, 2) := by decide +kernel
theorem dX3_init_46 : decode cX3_init 46 = .ok (.putfield 28, 3) := by decide +kernel
theorem dX3_init_49 : decode cX3_init 49 = .ok (.return_, 1) := by decide +kernel
theorem dX1_init_0 : decode cX1_init 0 = .ok (.aload_n 0, 1) := by decide +kernel
theorem dX1_init_1 : decode cX1_init 1 = .ok (.invokespecial 3, 3) := by decide +kernel
theorem dX1_init_4 : decode cX1_init 4 = .ok (.aload_n 0, 1) := by decide +kernel
theorem dX1_init_5 : decode cX1_init 5 = .ok (.iconst (-1), 1) := by decide +kernel
theorem dX1_init_6 : decode cX1_init 6 = .ok (.putfield 9, 3) := by decide +kernel
theorem dX1_init_9 : decode cX1_init 9 = .ok (.aload_n 0, 1) := by decide +kernel
theorem dX1_init_10 : decode cX1_init 10 = .ok (.bipush 20, 2) := by decide +kernel
theorem dX1_init_12 : decode cX1_init 12 = .ok (.bipush 6, 2) := by decide +kernel
theorem dX1_init_14 : decode cX1_init 14 = .ok (.multianewarray 15 2, 4) := by decide +kernel
theorem dX1_init_18 : decode cX1_init 18 = .ok (.putfield 17, 3) := by decide +kernel
theorem dX1_init_21 : decode cX1_init 21 = .ok (.aload_n 0, 1) := by decide +kernel
theorem dX1_init_22 : decode cX1_init 22 = .ok (.sipush 720, 3) := by decide +kernel
theorem dX1_init_25 : decode cX1_init 25 = .ok (.newarray .int, 2) := by decide +kernel
theorem dX1_init_27 : decode cX1_init 27 = .ok (.putfield 20, 3) := by decide +kernel
theorem dX1_init_30 : decode cX1_init 30 = .ok (.aload_n 0, 1) := by decide +kernel
theorem dX1_init_31 : decode cX1_init 31 = .ok (.bipush 6, 2) := by decide +kernel
theorem dX1_init_33 : decode cX1_init 33 = .ok (.newarray .int, 2) := by decide +kernel
theorem dX1_init_35 : decode cX1_init 35 = .ok (.putfield 24, 3) := by decide +kernel
theorem dX1_init_38 : decode cX1_init 38 = .ok (.aload_n 0, 1) := by decide +kernel
theorem dX1_init_39 : decode cX1_init 39 = .ok (.bipush 6, 2) := by decide +kernel
theorem dX1_init_41 : decode cX1_init 41 = .ok (.newarray .int, 2) := by decide +kernel
theorem dX1_init_43 : decode cX1_init 43 = .ok (.putfield 27, 3) := by decide +kernel
theorem dX1_init_46 : decode cX1_init 46 = .ok (.aload_n 0, 1) := by decide +kernel
theorem dX1_init_47 : decode cX1_init 47 = .ok (.bipush 6, 2) := by decide +kernel
theorem dX1_init_49 : decode cX1_init 49 = .ok (.newarray .int, 2) := by decide +kernel
theorem dX1_init_51 : decode cX1_init 51 = .ok (.putfield 30, 3) := by decide +kernel
theorem dX1_init_54 : decode cX1_init 54 = .ok (.return_, 1) := by decide +kernel
theorem dX0_init_0 : decode cX0_init 0 = .ok (.aload_n 0, 1) := by decide +kernel
theorem dX0_init_1 : decode cX0_init 1 = .ok (.invokespecial 1, 3) := by decide +kernel
theorem dX0_init_4 : decode cX0_init 4 = .ok (.return_, 1) := by decide +kernel
theorem dX6_init_0 : decode cX6_init 0 = .ok (.aload_n 0, 1) := by decide +kernel
theorem dX6_init_1 : decode cX6_init 1 = .ok (.invokespecial 5, 3) := by decide +kernel
theorem dX6_init_4 : decode cX6_init 4 = .ok (.aload_n 0, 1) := by decide +kernel
theorem dX6_init_5 : decode cX6_init 5 = .ok (.bipush 40, 2) := by decide +kernel
theorem dX6_init_7 : decode cX6_init 7 = .ok (.newarray .int, 2) := by decide +kernel
theorem dX6_init_9 : decode cX6_init 9 = .ok (.putfield 11, 3) := by decide +kernel
theorem dX6_init_12 : decode cX6_init 12 = .ok (.aload_n 0, 1) := by decide +kernel
theorem dX6_init_13 : decode cX6_init 13 = .ok (.bipush 7, 2) := by decide +kernel
theorem dX6_init_15 : decode cX6_init 15 = .ok (.newarray .int, 2) := by decide +kernel
theorem dX6_init_17 : decode cX6_init 17 = .ok (.putfield 15, 3) := by decide +kernel
theorem dX6_init_20 : decode cX6_init 20 = .ok (.aload_n 0, 1) := by decide +kernel
theorem dX6_init_21 : decode cX6_init 21 = .ok (.bipush 40, 2) := by decide +kernel
theorem dX6_init_23 : decode cX6_init 23 = .ok (.newarray .int, 2) := by decide +kernel
theorem dX6_init_25 : decode cX6_init 25 = .ok (.putfield 18, 3) := by decide +kernel
theorem dX6_init_28 : decode cX6_init 28 = .ok (.aload_n 0, 1) := by decide +kernel
theorem dX6_init_29 : decode cX6_init 29 = .ok (.aload_n 1, 1) := by decide +kernel
theorem dX6_init_30 : decode cX6_init 30 = .ok (.putfield 21, 3) := by decide +kernel
theorem dX6_init_33 : decode cX6_init 33 = .ok (.aload_n 0, 1) := by decide +kernel
theorem dX6_init_34 : decode cX6_init 34 = .ok (.invokevirtual 25, 3) := by decide +kernel
theorem dX6_init_37 : decode cX6_init 37 = .ok (.return_, 1) := by decide +kernel
theorem dX9_init_0 : decode cX9_init 0 = .ok (.aload_n 0, 1) := by decide +kernel
theorem dX9_init_1 : decode cX9_init 1 = .ok (.invokespecial 1, 3) := by decide +kernel
theorem dX9_init_4 : decode cX9_init 4 = .ok (.aload_n 0, 1) := by decide +kernel
theorem dX9_init_5 : decode cX9_init 5 = .ok (.new 7, 3) := by decide +kernel
theorem dX9_init_8 : decode cX9_init 8 = .ok (.dup, 1) := by decide +kernel
theorem dX9_init_9 : decode cX9_init 9 = .ok (.invokespecial 9, 3) := by decide +kernel
theorem dX9_init_12 : decode cX9_init 12 = .ok (.putfield 10, 3) := by decide +kernel
theorem dX9_init_15 : decode cX9_init 15 = .ok (.aload_n 0, 1) := by decide +kernel
theorem dX9_init_16 : decode cX9_init 16 = .ok (.new 16, 3) := by decide +kernel
theorem dX9_init_19 : decode cX9_init 19 = .ok (.dup, 1) := by decide +kernel
theorem dX9_init_20 : decode cX9_init 20 = .ok (.invokespecial 18, 3) := by decide +kernel
theorem dX9_init_23 : decode cX9_init 23 = .ok (.putfield 19, 3) := by decide +kernel
theorem dX9_init_26 : decode cX9_init 26 = .ok (.aload_n 0, 1) := by decide +kernel
theorem dX9_init_27 : decode cX9_init 27 = .ok (.new 23, 3) := by decide +kernel
theorem dX9_init_30 : decode cX9_init 30 = .ok (.dup, 1) := by decide +kernel
theorem dX9_init_31 : decode cX9_init 31 = .ok (.invokespecial 25, 3) := by decide +kernel
theorem dX9_init_34 : decode cX9_init 34 = .ok (.putfield 26, 3) := by decide +kernel
theorem dX9_init_37 : decode cX9_init 37 = .ok (.aload_n 0, 1) := by decide +kernel
theorem dX9_init_38 : decode cX9_init 38 = .ok (.new 23, 3) := by decide +kernel
theorem dX9_init_41 : decode cX9_init 41 = .ok (.dup, 1) := by decide +kernel
theorem dX9_init_42 : decode cX9_init 42 = .ok (.invokespecial 25, 3) := by decide +kernel
theorem dX9_init_45 : decode cX9_init 45 = .ok (.putfield 30, 3) := by decide +kernel
theorem dX9_init_48 : decode cX9_init 48 = .ok (.aload_n 0, 1) := by decide +kernel
theorem dX9_init_49 : decode cX9_init 49 = .ok (.new 23, 3) := by decide +kernel
theorem dX9_init_52 : decode cX9_init 52 = .ok (.dup, 1) := by decide +kernel
theorem dX9_init_53 : decode cX9_init 53 = .ok (.invokespecial 25, 3) := by decide +kernel
theorem dX9_init_56 : decode cX9_init 56 = .ok (.putfield 33, 3) := by decide +kernel
theorem dX9_init_59 : decode cX9_init 59 = .ok (.aload_n 0, 1) := by decide +kernel
theorem dX9_init_60 : decode cX9_init 60 = .ok (.new 23, 3) := by decide +kernel
theorem dX9_init_63 : decode cX9_init 63 = .ok (.dup, 1) := by decide +kernel
theorem dX9_init_64 : decode cX9_init 64 = .ok (.invokespecial 25, 3) := by decide +kernel
theorem dX9_init_67 : decode cX9_init 67 = .ok (.putfield 36, 3) := by decide +kernel
theorem dX9_init_70 : decode cX9_init 70 = .ok (.aload_n 0, 1) := by decide +kernel
theorem dX9_init_71 : decode cX9_init 71 = .ok (.new 39, 3) := by decide +kernel
theorem dX9_init_74 : decode cX9_init 74 = .ok (.dup, 1) := by decide +kernel
theorem dX9_init_75 : decode cX9_init 75 = .ok (.invokespecial 41, 3) := by decide +kernel
theorem dX9_init_78 : decode cX9_init 78 = .ok (.putfield 42, 3) := by decide +kernel
theorem dX9_init_81 : decode cX9_init 81 = .ok (.aload_n 0, 1) := by decide +kernel
theorem dX9_init_82 : decode cX9_init 82 = .ok (.iconst 3, 1) := by decide +kernel
theorem dX9_init_83 : decode cX9_init 83 = .ok (.anewarray 23, 3) := by decide +kernel
theorem dX9_init_86 : decode cX9_init 86 = .ok (.putfield 46, 3) := by decide +kernel
theorem dX9_init_89 : decode cX9_init 89 = .ok (.aload_n 0, 1) := by decide +kernel
theorem dX9_init_90 : decode cX9_init 90 = .ok (.iconst 3, 1) := by decide +kernel
theorem dX9_init_91 : decode cX9_init 91 = .ok (.newarray .boolean, 2) := by decide +kernel
theorem dX9_init_93 : decode cX9_init 93 = .ok (.putfield 50, 3) := by decide +kernel
theorem dX9_init_96 : decode cX9_init 96 = .ok (.aload_n 0, 1) := by decide +kernel
theorem dX9_init_97 : decode cX9_init 97 = .ok (.new 54, 3) := by decide +kernel
theorem dX9_init_100 : decode cX9_init 100 = .ok (.dup, 1) := by decide +kernel
theorem dX9_init_101 : decode cX9_init 101 = .ok (.invokespecial 56, 3) := by decide +kernel
theorem dX9_init_104 : decode cX9_init 104 = .ok (.putfield 57, 3) := by decide +kernel
theorem dX9_init_107 : decode cX9_init 107 = .ok (.aload_n 0, 1) := by decide +kernel
theorem dX9_init_108 : decode cX9_init 108 = .ok (.new 61, 3) := by decide +kernel
theorem dX9_init_111 : decode cX9_init 111 = .ok (.dup, 1) := by decide +kernel
theorem dX9_init_112 : decode cX9_init 112 = .ok (.invokespecial 63, 3) := by decide +kernel
theorem dX9_init_115 : decode cX9_init 115 = .ok (.putfield 64, 3) := by decide +kernel
theorem dX9_init_118 : decode cX9_init 118 = .ok (.aload_n 0, 1) := by decide +kernel
theorem dX9_init_119 : decode cX9_init 119 = .ok (.new 68, 3) := by decide +kernel
theorem dX9_init_122 : decode cX9_init 122 = .ok (.dup, 1) := by decide +kernel
theorem dX9_init_123 : decode cX9_init 123 = .ok (.invokespecial 70, 3) := by decide +kernel
theorem dX9_init_126 : decode cX9_init 126 = .ok (.putfield 71, 3) := by decide +kernel
theorem dX9_init_129 : decode cX9_init 129 = .ok (.aload_n 0, 1) := by decide +kernel
theorem dX9_init_130 : decode cX9_init 130 = .ok (.new 75, 3) := by decide +kernel
theorem dX9_init_133 : decode cX9_init 133 = .ok (.dup, 1) := by decide +kernel
theorem dX9_init_134 : decode cX9_init 134 = .ok (.invokespecial 77, 3) := by decide +kernel
theorem dX9_init_137 : decode cX9_init 137 = .ok (.putfield 78, 3) := by decide +kernel
theorem dX9_init_140 : decode cX9_init 140 = .ok (.aload_n 0, 1) := by decide +kernel
theorem dX9_init_141 : decode cX9_init 141 = .ok (.bipush 6, 2) := by decide +kernel
theorem dX9_init_143 : decode cX9_init 143 = .ok (.newarray .int, 2) := by decide +kernel
theorem dX9_init_145 : decode cX9_init 145 = .ok (.putfield 82, 3) := by decide +kernel
theorem dX9_init_148 : decode cX9_init 148 = .ok (.aload_n 0, 1) := by decide +kernel
theorem dX9_init_149 : decode cX9_init 149 = .ok (.bipush 6, 2) := by decide +kernel
theorem dX9_init_151 : decode cX9_init 151 = .ok (.newarray .int, 2) := by decide +kernel
theorem dX9_init_153 : decode cX9_init 153 = .ok (.putfield 86, 3) := by decide +kernel
theorem dX9_init_156 : decode cX9_init 156 = .ok (.aload_n 0, 1) := by decide +kernel
theorem dX9_init_157 : decode cX9_init 157 = .ok (.bipush 61, 2) := by decide +kernel
theorem dX9_init_159 : decode cX9_init 159 = .ok (.newarray .int, 2) := by decide +kernel
theorem dX9_init_161 : decode cX9_init 161 = .ok (.putfield 89, 3) := by decide +kernel
theorem dX9_init_164 : decode cX9_init 164 = .ok (.aload_n 0, 1) := by decide +kernel
theorem dX9_init_165 : decode cX9_init 165 = .ok (.bipush 61, 2) := by decide +kernel
theorem dX9_init_167 : decode cX9_init 167 = .ok (.newarray .boolean, 2) := by decide +kernel
theorem dX9_init_169 : decode cX9_init 169 = .ok (.putfield 92, 3) := by decide +kernel
theorem dX9_init_172 : decode cX9_init 172 = .ok (.aload_n 0, 1) := by decide +kernel
theorem dX9_init_173 : decode cX9_init 173 = .ok (.new 95, 3) := by decide +kernel
theorem dX9_init_176 : decode cX9_init 176 = .ok (.dup, 1) := by decide +kernel
theorem dX9_init_177 : decode cX9_init 177 = .ok (.aload_n 0, 1) := by decide +kernel
theorem dX9_init_178 : decode cX9_init 178 = .ok (.getfield 10, 3) := by decide +kernel
theorem dX9_init_181 : decode cX9_init 181 = .ok (.invokespecial 97, 3) := by decide +kernel
theorem dX9_init_184 : decode cX9_init 184 = .ok (.putfield 100, 3) := by decide +kernel
theorem dX9_init_187 : decode cX9_init 187 = .ok (.aload_n 0, 1) := by decide +kernel
theorem dX9_init_188 : decode cX9_init 188 = .ok (.new 95, 3) := by decide +kernel
theorem dX9_init_191 : decode cX9_init 191 = .ok (.dup, 1) := by decide +kernel
theorem dX9_init_192 : decode cX9_init 192 = .ok (.aload_n 0, 1) := by decide +kernel
theorem dX9_init_193 : decode cX9_init 193 = .ok (.getfield 10, 3) := by decide +kernel
theorem dX9_init_196 : decode cX9_init 196 = .ok (.invokespecial 97, 3) := by decide +kernel
theorem dX9_init_199 : decode cX9_init 199 = .ok (.putfield 104, 3) := by decide +kernel
theorem dX9_init_202 : decode cX9_init 202 = .ok (.iconst 0, 1) := by decide +kernel
theorem dX9_init_203 : decode cX9_init 203 = .ok (.istore_n 1, 1) := by decide +kernel
theorem dX9_init_204 : decode cX9_init 204 = .ok (.iload_n 1, 1) := by decide +kernel
theorem dX9_init_205 : decode cX9_init 205 = .ok (.iconst 3, 1) := by decide +kernel
theorem dX9_init_206 : decode cX9_init 206 = .ok (.if_icmp .ge 22, 3) := by decide +kernel
theorem dX9_init_209 : decode cX9_init 209 = .ok (.aload_n 0, 1) := by decide +kernel
theorem dX9_init_210 : decode cX9_init 210 = .ok (.getfield 46, 3) := by decide +kernel
theorem dX9_init_213 : decode cX9_init 213 = .ok (.iload_n 1, 1) := by decide +kernel
theorem dX9_init_214 : decode cX9_init 214 = .ok (.new 23, 3) := by decide +kernel
theorem dX9_init_217 : decode cX9_init 217 = .ok (.dup, 1) := by decide +kernel
theorem dX9_init_218 : decode cX9_init 218 = .ok (.invokespecial 25, 3) := by decide +kernel
theorem dX9_init_221 : decode cX9_init 221 = .ok (.aastore, 1) := by decide +kernel
theorem dX9_init_222 : decode cX9_init 222 = .ok (.iinc 1 1, 3) := by decide +kernel
theorem dX9_init_225 : decode cX9_init 225 = .ok (.goto (-21), 3) := by decide +kernel
theorem dX9_init_228 : decode cX9_init 228 = .ok (.return_, 1) := by decide +kernel
theorem dX10_init_0 : decode cX10_init 0 = .ok (.aload_n 0, 1) := by decide +kernel
theorem dX10_init_1 : decode cX10_init 1 = .ok (.invokespecial 18, 3) := by decide +kernel
theorem dX10_init_4 : decode cX10_init 4 = .ok (.aload_n 0, 1) := by decide +kernel
theorem dX10_init_5 : decode cX10_init 5 = .ok (.bipush 24, 2) := by decide +kernel
theorem dX10_init_7 : decode cX10_init 7 = .ok (.newarray .long, 2) := by decide +kernel
theorem dX10_init_9 : decode cX10_init 9 = .ok (.putfield 11, 3) := by decide +kernel
theorem dX10_init_12 : decode cX10_init 12 = .ok (.aload_n 0, 1) := by decide +kernel
theorem dX10_init_13 : decode cX10_init 13 = .ok (.bipush 22, 2) := by decide +kernel
theorem dX10_init_15 : decode cX10_init 15 = .ok (.newarray .int, 2) := by decide +kernel
theorem dX10_init_17 : decode cX10_init 17 = .ok (.putfield 24, 3) := by decide +kernel
theorem dX10_init_20 : decode cX10_init 20 = .ok (.aload_n 0, 1) := by decide +kernel
theorem dX10_init_21 : decode cX10_init 21 = .ok (.bipush 22, 2) := by decide +kernel
theorem dX10_init_23 : decode cX10_init 23 = .ok (.newarray .int, 2) := by decide +kernel
theorem dX10_init_25 : decode cX10_init 25 = .ok (.putfield 28, 3) := by decide +kernel
theorem dX10_init_28 : decode cX10_init 28 = .ok (.aload_n 0, 1) := by decide +kernel
theorem dX10_init_29 : decode cX10_init 29 = .ok (.bipush 80, 2) := by decide +kernel
theorem dX10_init_31 : decode cX10_init 31 = .ok (.newarray .int, 2) := by decide +kernel
theorem dX10_init_33 : decode cX10_init 33 = .ok (.putfield 31, 3) := by decide +kernel
theorem dX10_init_36 : decode cX10_init 36 = .ok (.aload_n 0, 1) := by decide +kernel
theorem dX10_init_37 : decode cX10_init 37 = .ok (.bipush 12, 2) := by decide +kernel
theorem dX10_init_39 : decode cX10_init 39 = .ok (.newarray .int, 2) := by decide +kernel
theorem dX10_init_41 : decode cX10_init 41 = .ok (.putfield 34, 3) := by decide +kernel
theorem dX10_init_44 : decode cX10_init 44 = .ok (.aload_n 0, 1) := by decide +kernel
theorem dX10_init_45 : decode cX10_init 45 = .ok (.bipush 80, 2) := by decide +kernel
theorem dX10_init_47 : decode cX10_init 47 = .ok (.newarray .int, 2) := by decide +kernel
theorem dX10_init_49 : decode cX10_init 49 = .ok (.putfield 37, 3) := by decide +kernel
theorem dX10_init_52 : decode cX10_init 52 = .ok (.aload_n 0, 1) := by decide +kernel
theorem dX10_init_53 : decode cX10_init 53 = .ok (.bipush 80, 2) := by decide +kernel
theorem dX10_init_55 : decode cX10_init 55 = .ok (.newarray .int, 2) := by decide +kernel
theorem dX10_init_57 : decode cX10_init 57 = .ok (.putfield 40, 3) := by decide +kernel
theorem dX10_init_60 : decode cX10_init 60 = .ok (.aload_n 0, 1) := by decide +kernel
theorem dX10_init_61 : decode cX10_init 61 = .ok (.bipush 80, 2) := by decide +kernel
theorem dX10_init_63 : decode cX10_init 63 = .ok (.newarray .int, 2) := by decide +kernel
theorem dX10_init_65 : decode cX10_init 65 = .ok (.putfield 43, 3) := by decide +kernel
theorem dX10_init_68 : decode cX10_init 68 = .ok (.aload_n 0, 1) := by decide +kernel
theorem dX10_init_69 : decode cX10_init 69 = .ok (.bipush 7, 2) := by decide +kernel
theorem dX10_init_71 : decode cX10_init 71 = .ok (.newarray .int, 2) := by decide +kernel
theorem dX10_init_73 : decode cX10_init 73 = .ok (.putfield 46, 3) := by decide +kernel
theorem dX10_init_76 : decode cX10_init 76 = .ok (.aload_n 0, 1) := by decide +kernel
theorem dX10_init_77 : decode cX10_init 77 = .ok (.bipush 6, 2) := by decide +kernel
theorem dX10_init_79 : decode cX10_init 79 = .ok (.newarray .int, 2) := by decide +kernel
theorem dX10_init_81 : decode cX10_init 81 = .ok (.putfield 49, 3) := by decide +kernel
theorem dX10_init_84 : decode cX10_init 84 = .ok (.aload_n 0, 1) := by decide +kernel
theorem dX10_init_85 : decode cX10_init 85 = .ok (.bipush 6, 2) := by decide +kernel
theorem dX10_init_87 : decode cX10_init 87 = .ok (.newarray .int, 2) := by decide +kernel
theorem dX10_init_89 : decode cX10_init 89 = .ok (.putfield 52, 3) := by decide +kernel
theorem dX10_init_92 : decode cX10_init 92 = .ok (.aload_n 0, 1) := by decide +kernel
theorem dX10_init_93 : decode cX10_init 93 = .ok (.bipush 6, 2) := by decide +kernel
theorem dX10_init_95 : decode cX10_init 95 = .ok (.newarray .int, 2) := by decide +kernel
theorem dX10_init_97 : decode cX10_init 97 = .ok (.putfield 55, 3) := by decide +kernel
theorem dX10_init_100 : decode cX10_init 100 = .ok (.aload_n 0, 1) := by decide +kernel
theorem dX10_init_101 : decode cX10_init 101 = .ok (.bipush 6, 2) := by decide +kernel
theorem dX10_init_103 : decode cX10_init 103 = .ok (.newarray .int, 2) := by decide +kernel
theorem dX10_init_105 : decode cX10_init 105 = .ok (.putfield 58, 3) := by decide +kernel
theorem dX10_init_108 : decode cX10_init 108 = .ok (.aload_n 0, 1) := by decide +kernel
theorem dX10_init_109 : decode cX10_init 109 = .ok (.bipush 6, 2) := by decide +kernel
theorem dX10_init_111 : decode cX10_init 111 = .ok (.newarray .int, 2) := by decide +kernel
theorem dX10_init_113 : decode cX10_init 113 = .ok (.putfield 61, 3) := by decide +kernel
theorem dX10_init_116 : decode cX10_init 116 = .ok (.aload_n 0, 1) := by decide +kernel
theorem dX10_init_117 : decode cX10_init 117 = .ok (.bipush 6, 2) := by decide +kernel
theorem dX10_init_119 : decode cX10_init 119 = .ok (.newarray .int, 2) := by decide +kernel
theorem dX10_init_121 : decode cX10_init 121 = .ok (.putfield 64, 3) := by decide +kernel
theorem dX10_init_124 : decode cX10_init 124 = .ok (.aload_n 0, 1) := by decide +kernel
theorem dX10_init_125 : decode cX10_init 125 = .ok (.sipush 352, 3) := by decide +kernel
theorem dX10_init_128 : decode cX10_init 128 = .ok (.newarray .int, 2) := by decide +kernel
theorem dX10_init_130 : decode cX10_init 130 = .ok (.putfield 67, 3) := by decide +kernel
theorem dX10_init_133 : decode cX10_init 133 = .ok (.aload_n 0, 1) := by decide +kernel
theorem dX10_init_134 : decode cX10_init 134 = .ok (.bipush 60, 2) := by decide +kernel
theorem dX10_init_136 : decode cX10_init 136 = .ok (.newarray .int, 2) := by decide +kernel
theorem dX10_init_138 : decode cX10_init 138 = .ok (.putfield 70, 3) := by decide +kernel
theorem dX10_init_141 : decode cX10_init 141 = .ok (.aload_n 0, 1) := by decide +kernel
theorem dX10_init_142 : decode cX10_init 142 = .ok (.bipush 60, 2) := by decide +kernel
theorem dX10_init_144 : decode cX10_init 144 = .ok (.newarray .int, 2) := by decide +kernel
theorem dX10_init_146 : decode cX10_init 146 = .ok (.putfield 73, 3) := by decide +kernel
theorem dX10_init_149 : decode cX10_init 149 = .ok (.aload_n 0, 1) := by decide +kernel
theorem dX10_init_150 : decode cX10_init 150 = .ok (.bipush 60, 2) := by decide +kernel
theorem dX10_init_152 : decode cX10_init 152 = .ok (.newarray .int, 2) := by decide +kernel
theorem dX10_init_154 : decode cX10_init 154 = .ok (.putfield 76, 3) := by decide +kernel
theorem dX10_init_157 : decode cX10_init 157 = .ok (.aload_n 0, 1) := by decide +kernel
theorem dX10_init_158 : decode cX10_init 158 = .ok (.bipush 6, 2) := by decide +kernel
theorem dX10_init_160 : decode cX10_init 160 = .ok (.newarray .int, 2) := by decide +kernel
theorem dX10_init_162 : decode cX10_init 162 = .ok (.putfield 79, 3) := by decide +kernel
theorem dX10_init_165 : decode cX10_init 165 = .ok (.aload_n 0, 1) := by decide +kernel
theorem dX10_init_166 : decode cX10_init 166 = .ok (.bipush 6, 2) := by decide +kernel
theorem dX10_init_168 : decode cX10_init 168 = .ok (.newarray .int, 2) := by decide +kernel
theorem dX10_init_170 : decode cX10_init 170 = .ok (.putfield 82, 3) := by decide +kernel
theorem dX10_init_173 : decode cX10_init 173 = .ok (.aload_n 0, 1) := by decide +kernel
theorem dX10_init_174 : decode cX10_init 174 = .ok (.sipush 720, 3) := by decide +kernel
theorem dX10_init_177 : decode cX10_init 177 = .ok (.newarray .boolean, 2) := by decide +kernel
theorem dX10_init_179 : decode cX10_init 179 = .ok (.putfield 85, 3) := by decide +kernel
theorem dX10_init_182 : decode cX10_init 182 = .ok (.aload_n 0, 1) := by decide +kernel
theorem dX10_init_183 : decode cX10_init 183 = .ok (.bipush 120, 2) := by decide +kernel
theorem dX10_init_185 : decode cX10_init 185 = .ok (.newarray .int, 2) := by decide +kernel
theorem dX10_init_187 : decode cX10_init 187 = .ok (.putfield 89, 3) := by decide +kernel
theorem dX10_init_190 : decode cX10_init 190 = .ok (.aload_n 0, 1) := by decide +kernel
theorem dX10_init_191 : decode cX10_init 191 = .ok (.bipush 6, 2) := by decide +kernel
theorem dX10_init_193 : decode cX10_init 193 = .ok (.newarray .int, 2) := by decide +kernel
theorem dX10_init_195 : decode cX10_init 195 = .ok (.putfield 92, 3) := by decide +kernel
theorem dX10_init_198 : decode cX10_init 198 = .ok (.aload_n 0, 1) := by decide +kernel
theorem dX10_init_199 : decode cX10_init 199 = .ok (.sipush 720, 3) := by decide +kernel
theorem dX10_init_202 : decode cX10_init 202 = .ok (.newarray .int, 2) := by decide +kernel
theorem dX10_init_204 : decode cX10_init 204 = .ok (.putfield 95, 3) := by decide +kernel
theorem dX10_init_207 : decode cX10_init 207 = .ok (.aload_n 0, 1) := by decide +kernel
theorem dX10_init_208 : decode cX10_init 208 = .ok (.sipush 720, 3) := by decide +kernel
theorem dX10_init_211 : decode cX10_init 211 = .ok (.newarray .int, 2) := by decide +kernel
theorem dX10_init_213 : decode cX10_init 213 = .ok (.putfield 98, 3) := by decide +kernel
theorem dX10_init_216 : decode cX10_init 216 = .ok (.aload_n 0, 1) := by decide +kernel
theorem dX10_init_217 : decode cX10_init 217 = .ok (.sipush 480, 3) := by decide +kernel
theorem dX10_init_220 : decode cX10_init 220 = .ok (.newarray .int, 2) := by decide +kernel
theorem dX10_init_222 : decode cX10_init 222 = .ok (.putfield 101, 3) := by decide +kernel
theorem dX10_init_225 : decode cX10_init 225 = .ok (.aload_n 0, 1) := by decide +kernel
theorem dX10_init_226 : decode cX10_init 226 = .ok (.bipush 22, 2) := by decide +kernel
theorem dX10_init_228 : decode cX10_init 228 = .ok (.newarray .int, 2) := by decide +kernel
theorem dX10_init_230 : decode cX10_init 230 = .ok (.putfield 104, 3) := by decide +kernel
theorem dX10_init_233 : decode cX10_init 233 = .ok (.aload_n 0, 1) := by decide +kernel
theorem dX10_init_234 : decode cX10_init 234 = .ok (.bipush 12, 2) := by decide +kernel
theorem dX10_init_236 : decode cX10_init 236 = .ok (.newarray .int, 2) := by decide +kernel
theorem dX10_init_238 : decode cX10_init 238 = .ok (.putfield 107, 3) := by decide +kernel
theorem dX10_init_241 : decode cX10_init 241 = .ok (.aload_n 0, 1) := by decide +kernel
theorem dX10_init_242 : decode cX10_init 242 = .ok (.bipush 12, 2) := by decide +kernel
theorem dX10_init_244 : decode cX10_init 244 = .ok (.newarray .int, 2) := by decide +kernel
theorem dX10_init_246 : decode cX10_init 246 = .ok (.putfield 110, 3) := by decide +kernel
theorem dX10_init_249 : decode cX10_init 249 = .ok (.aload_n 0, 1) := by decide +kernel
theorem dX10_init_250 : decode cX10_init 250 = .ok (.bipush 61, 2) := by decide +kernel
theorem dX10_init_252 : decode cX10_init 252 = .ok (.newarray .int, 2) := by decide +kernel
theorem dX10_init_254 : decode cX10_init 254 = .ok (.putfield 113, 3) := by decide +kernel
theorem dX10_init_257 : decode cX10_init 257 = .ok (.aload_n 0, 1) := by decide +kernel
theorem dX10_init_258 : decode cX10_init 258 = .ok (.bipush 80, 2) := by decide +kernel
theorem dX10_init_260 : decode cX10_init 260 = .ok (.newarray .int, 2) := by decide +kernel
theorem dX10_init_262 : decode cX10_init 262 = .ok (.putfield 116, 3) := by decide +kernel
theorem dX10_init_265 : decode cX10_init 265 = .ok (.aload_n 0, 1) := by decide +kernel
theorem dX10_init_266 : decode cX10_init 266 = .ok (.iconst 3, 1) := by decide +kernel
theorem dX10_init_267 : decode cX10_init 267 = .ok (.newarray .boolean, 2) := by decide +kernel
theorem dX10_init_269 : decode cX10_init 269 = .ok (.putfield 119, 3) := by decide +kernel
theorem dX10_init_272 : decode cX10_init 272 = .ok (.aload_n 0, 1) := by decide +kernel
theorem dX10_init_273 : decode cX10_init 273 = .ok (.iconst 3, 1) := by decide +kernel
theorem dX10_init_274 : decode cX10_init 274 = .ok (.newarray .int, 2) := by decide +kernel
theorem dX10_init_276 : decode cX10_init 276 = .ok (.putfield 122, 3) := by decide +kernel
theorem dX10_init_279 : decode cX10_init 279 = .ok (.aload_n 0, 1) := by decide +kernel
theorem dX10_init_280 : decode cX10_init 280 = .ok (.bipush 66, 2) := by decide +kernel
theorem dX10_init_282 : decode cX10_init 282 = .ok (.newarray .int, 2) := by decide +kernel
theorem dX10_init_284 : decode cX10_init 284 = .ok (.putfield 125, 3) := by decide +kernel
theorem dX10_init_287 : decode cX10_init 287 = .ok (.aload_n 0, 1) := by decide +kernel
theorem dX10_init_288 : decode cX10_init 288 = .ok (.getfield 24, 3) := by decide +kernel
theorem dX10_init_291 : decode cX10_init 291 = .ok (.bipush 18, 2) := by decide +kernel
theorem dX10_init_293 : decode cX10_init 293 = .ok (.bipush 9, 2) := by decide +kernel
theorem dX10_init_295 : decode cX10_init 295 = .ok (.iastore, 1) := by decide +kernel
theorem dX10_init_296 : decode cX10_init 296 = .ok (.aload_n 0, 1) := by decide +kernel
theorem dX10_init_297 : decode cX10_init 297 = .ok (.getfield 24, 3) := by decide +kernel
theorem dX10_init_300 : decode cX10_init 300 = .ok (.bipush 19, 2) := by decide +kernel
theorem dX10_init_302 : decode cX10_init 302 = .ok (.bipush 20, 2) := by decide +kernel
theorem dX10_init_304 : decode cX10_init 304 = .ok (.iastore, 1) := by decide +kernel
theorem dX10_init_305 : decode cX10_init 305 = .ok (.return_, 1) := by decide +kernel
theorem sR_at {M : Mem} {a i v : Nat} : (sR M a i v).2.2 a i = v := up2_at
theorem sR_nb {M : Mem} {a i v b j : Nat} (h : ¬ (b = a ∧ j = i)) : (sR M a i v).2.2 b j = M.2.2 b j := up2_ne h
theorem sR_row {M : Mem} {a i v b : Nat} (h : b ≠ a) : (sR M a i v).2.2 b = M.2.2 b := up2_row h
theorem sI_row {M : Mem} {a i b : Nat} {v : Int32} : (sI M a i v).2.2 b = M.2.2 b := rfl
/-- the standard rule in the making -/
def zEm (q : Nat) (x : Int32) (M : Mem) : Mem := sI (sI M (q + 1) (ix (M.1 q 1)) x) q 1 (M.1 q 1 + 1)
def zStd (q : Nat) (M : Mem) : Mem := zEm q (-45) (zEm q (-47) (zEm q 4 (zEm q (-2) (zEm q (-1) (sI (sI M q 1 0) q 2 0)))))
theorem zStd_row {q : Nat} {M : Mem} {b : Nat} : (zStd q M).2.2 b = M.2.2 b := rfl
theorem zEm_len {q : Nat} {x : Int32} {M : Mem} : (zEm q x M).1 q 1 = M.1 q 1 + 1 := by simp [zEm, sI, up2]
theorem zm_emit (l : Launch) {G : GG} {B N q : Nat} (hg : q ≠ 0 ∧ sh q = (16, 0) ∧ sh (q + 1) = (0, 40) ∧ sh (q + 2) = (0, 7) ∧ sh (q + 3) = (0, 40)) (hN : q + 3 ≤ N) {x : Int32} {M Z : Mem} (hc : M.2.2 q 0 = q + 1) (hl0 : inb (M.1 q 1) 40 = true) (hl1 : ¬ 40 ≤ M.1 q 1) (hf : zEm q x M = Z) : Met l yX6_emit (wsG yX6_emit cX6_emit 2 none) (rmZ 2 0 0) (PcZ G B N M [.ref (B + q), .int x]) (QcZ G B N Z) 0 0 (fr B) := by
  refine mk_MetZ (own := RX6) rfl rfl (Nat.le_of_ble_eq_true rfl) ?_
  intro p e s m below meth c ls cx hr hlk hnm wz hl
  have hl : lv_has ls 2 [(0, .ref (B + q)), (1, .int x)] := hl
  have hq : (sh q).1 = 6 + 10 := by rw [hg.2.1]
  have hq1 : (sh (q + 1)).1 = 0 := by rw [hg.2.2.1]
  refine lv_aload_n cx.1 cx.2.1 dX6_emit_0 rfl (lv_at hl 0 rfl) ?_
  refine r_getI cx wz.1 hg.1 (by omega) hq fiX6_28 dX6_emit_1 ?_
  refine lv_bipush (v := 40) cx.1 cx.2.1 dX6_emit_4 (by decide) ?_
  refine lv_icmp_ge (tgt := 29) cx.1 cx.2.1 dX6_emit_6 (by decide) (fun c0 => absurd c0 hl1) (fun c0 => ?_)
  refine lv_aload_n cx.1 cx.2.1 dX6_emit_9 rfl (lv_at hl 0 rfl) ?_
  refine r_getR cx wz.1 hg.1 (by omega) hq fiX6_11 hc (by omega) dX6_emit_10 ?_
  refine lv_aload_n cx.1 cx.2.1 dX6_emit_13 rfl (lv_at hl 0 rfl) ?_
  refine r_getI cx wz.1 hg.1 (by omega) hq fiX6_28 dX6_emit_14 ?_
  refine lv_iload_n cx.1 cx.2.1 dX6_emit_17 rfl (lv_at hl 1 rfl) ?_
  refine z_iast cx wz (by omega) (by omega) hq1 (by rw [show ln (q + 1) = 40 by unfold ln; rw [hg.2.2.1]]; exact hl0) dX6_emit_18 (fun H locs wz => ?_)
  refine lv_aload_n cx.1 cx.2.1 dX6_emit_19 rfl (lv_at hl 0 rfl) ?_
  refine lv_dup cx.1 cx.2.1 dX6_emit_20 rfl ?_
  refine r_getI cx wz.1 hg.1 (by omega) hq fiX6_28 dX6_emit_21 ?_
  refine lv_iconst (v := 1) cx.1 cx.2.1 dX6_emit_24 (by decide) ?_
  refine lv_iadd cx.1 cx.2.1 dX6_emit_25 ?_
  refine z_putI cx wz hg.1 (by omega) hq fpX6_28 rfl rfl dX6_emit_26 (fun H locs wz => ?_)
  have e1 : (sI M (q + 1) (ix (M.1 q 1)) x).1 q 1 = M.1 q 1 := by simp [sI, up2]
  rw [e1] at wz
  have wz : Wz G B N s (zEm q x M) H locs := wz
  rw [hf] at wz
  exact z_vret cx wz hr hlk dX6_emit_29
theorem zm_std (l : Launch) {G : GG} {B N q : Nat} (hg : q ≠ 0 ∧ sh q = (16, 0) ∧ sh (q + 1) = (0, 40) ∧ sh (q + 2) = (0, 7) ∧ sh (q + 3) = (0, 40)) (hN : q + 3 ≤ N) {M Z : Mem} (hc : M.2.2 q 0 = q + 1) (hf : zStd q M = Z) : Met l yX6_takeStandard (wsG yX6_takeStandard cX6_takeStandard 1 none) (rmZ 3 0 0) (PcZ G B N M [.ref (B + q)]) (QcZ G B N Z) 0 0 (fr B) := by
  refine mk_MetZ (own := RX6) rfl rfl (Nat.le_of_ble_eq_true rfl) ?_
  intro p e s m below meth c ls cx hr hlk hnm wz hl
  have hl : lv_has ls 1 [(0, .ref (B + q))] := hl
  have hq : (sh q).1 = 6 + 10 := by rw [hg.2.1]
  refine lv_aload_n cx.1 cx.2.1 dX6_takeStandard_0 rfl (lv_at hl 0 rfl) ?_
  refine lv_iconst (v := 0) cx.1 cx.2.1 dX6_takeStandard_1 (by decide) ?_
  refine z_putI cx wz hg.1 (by omega) hq fpX6_28 rfl rfl dX6_takeStandard_2 (fun H locs wz => ?_)
  refine lv_aload_n cx.1 cx.2.1 dX6_takeStandard_5 rfl (lv_at hl 0 rfl) ?_
  refine lv_iconst (v := 0) cx.1 cx.2.1 dX6_takeStandard_6 (by decide) ?_
  refine z_putI cx wz hg.1 (by omega) hq fpX6_32 rfl rfl dX6_takeStandard_7 (fun H locs wz => ?_)
  have l0 : (sI (sI M q 1 0) q 2 0).1 q 1 = 0 := by simp [sI, up2]
  have c0 : (sI (sI M q 1 0) q 2 0).2.2 q 0 = q + 1 := hc
  unfold zStd at hf
  generalize sI (sI M q 1 0) q 2 0 = M0 at wz l0 c0 hf
  refine lv_aload_n cx.1 cx.2.1 dX6_takeStandard_10 rfl (lv_at hl 0 rfl) ?_
  refine lv_iconst (v := (-1)) cx.1 cx.2.1 dX6_takeStandard_11 (by decide) ?_
  refine z_Vv (rest := []) cx wz (zm_emit l hg hN c0 (by rw [l0]; decide) (by rw [l0]; decide) rfl) cvX6_36 rfl hg.1 (by omega) hq rfl rfl hl.1 rfl (Nat.le_of_ble_eq_true rfl) ⟨by decide, by decide, by decide, by decide⟩ dX6_takeStandard_12 (fun H locs wz => ?_)
  have l1 : (zEm q (-1) M0).1 q 1 = 1 := by rw [zEm_len, l0]; decide
  have c1 : (zEm q (-1) M0).2.2 q 0 = q + 1 := c0
  generalize zEm q (-1) M0 = M1 at wz l1 c1 hf
  refine lv_aload_n cx.1 cx.2.1 dX6_takeStandard_15 rfl (lv_at hl 0 rfl) ?_
  refine lv_bipush (v := (-2)) cx.1 cx.2.1 dX6_takeStandard_16 (by decide) ?_
  refine z_Vv (rest := []) cx wz (zm_emit l hg hN c1 (by rw [l1]; decide) (by rw [l1]; decide) rfl) cvX6_36 rfl hg.1 (by omega) hq rfl rfl hl.1 rfl (Nat.le_of_ble_eq_true rfl) ⟨by decide, by decide, by decide, by decide⟩ dX6_takeStandard_18 (fun H locs wz => ?_)
  have l2 : (zEm q (-2) M1).1 q 1 = 2 := by rw [zEm_len, l1]; decide
  have c2 : (zEm q (-2) M1).2.2 q 0 = q + 1 := c1
  generalize zEm q (-2) M1 = M2 at wz l2 c2 hf
  refine lv_aload_n cx.1 cx.2.1 dX6_takeStandard_21 rfl (lv_at hl 0 rfl) ?_
  refine lv_iconst (v := 4) cx.1 cx.2.1 dX6_takeStandard_22 (by decide) ?_
  refine z_Vv (rest := []) cx wz (zm_emit l hg hN c2 (by rw [l2]; decide) (by rw [l2]; decide) rfl) cvX6_36 rfl hg.1 (by omega) hq rfl rfl hl.1 rfl (Nat.le_of_ble_eq_true rfl) ⟨by decide, by decide, by decide, by decide⟩ dX6_takeStandard_23 (fun H locs wz => ?_)
  have l3 : (zEm q 4 M2).1 q 1 = 3 := by rw [zEm_len, l2]; decide
  have c3 : (zEm q 4 M2).2.2 q 0 = q + 1 := c2
  generalize zEm q 4 M2 = M3 at wz l3 c3 hf
  refine lv_aload_n cx.1 cx.2.1 dX6_takeStandard_26 rfl (lv_at hl 0 rfl) ?_
  refine lv_bipush (v := (-47)) cx.1 cx.2.1 dX6_takeStandard_27 (by decide) ?_
  refine z_Vv (rest := []) cx wz (zm_emit l hg hN c3 (by rw [l3]; decide) (by rw [l3]; decide) rfl) cvX6_36 rfl hg.1 (by omega) hq rfl rfl hl.1 rfl (Nat.le_of_ble_eq_true rfl) ⟨by decide, by decide, by decide, by decide⟩ dX6_takeStandard_29 (fun H locs wz => ?_)
  have l4 : (zEm q (-47) M3).1 q 1 = 4 := by rw [zEm_len, l3]; decide
  have c4 : (zEm q (-47) M3).2.2 q 0 = q + 1 := c3
  generalize zEm q (-47) M3 = M4 at wz l4 c4 hf
  refine lv_aload_n cx.1 cx.2.1 dX6_takeStandard_32 rfl (lv_at hl 0 rfl) ?_
  refine lv_bipush (v := (-45)) cx.1 cx.2.1 dX6_takeStandard_33 (by decide) ?_
  refine z_Vv (rest := []) cx wz (zm_emit l hg hN c4 (by rw [l4]; decide) (by rw [l4]; decide) rfl) cvX6_36 rfl hg.1 (by omega) hq rfl rfl hl.1 rfl (Nat.le_of_ble_eq_true rfl) ⟨by decide, by decide, by decide, by decide⟩ dX6_takeStandard_35 (fun H locs wz => ?_)
  have l5 : (zEm q (-45) M4).1 q 1 = 5 := by rw [zEm_len, l4]; decide
  have c5 : (zEm q (-45) M4).2.2 q 0 = q + 1 := c4
  generalize zEm q (-45) M4 = M5 at wz l5 c5 hf
  subst hf
  exact z_vret cx wz hr hlk dX6_takeStandard_38

def zX4_init (r : Nat) (M : Mem) : Mem := lt (sR M r 1 (r + 1)) fun M1 => lt (sR M1 r 2 (r + 2)) fun M3 => lt (sR M3 r 3 (r + 3)) fun M5 => lt (sR M5 r 4 (r + 4)) fun M7 => lt (sI M7 r 5 9) fun M9 => lt (sI M9 r 6 20) fun M11 => M11
theorem zX4_init_row {r : Nat} {M : Mem} {b : Nat} (h : b < r ∨ r + 4 < b) : (zX4_init r M).2.2 b = M.2.2 b := by
  unfold zX4_init
  simp only [lt]
  rw [sI_row]
  rw [sI_row]
  rw [sR_row (by omega)]
  rw [sR_row (by omega)]
  rw [sR_row (by omega)]
  rw [sR_row (by omega)]
set_option maxHeartbeats 4000000 in
set_option maxRecDepth 20000 in
theorem zmX4_init (l : Launch) {G : GG} {B : Nat} {r : Nat} (hg : r ≠ 0 ∧ sh r = (14, 0) ∧ sh (r + 1) = (0, 6) ∧ sh (r + 2) = (0, 6) ∧ sh (r + 3) = (0, 6) ∧ sh (r + 4) = (0, 6)) {M q : Mem} (hf : zX4_init r M = q) : Met l yX4_init (wsG yX4_init cX4_init 1 none) (rmZ 2 4 24) (PcZ G B r M [.ref (B + r)]) (QcZ G B (r + 4) q) 4 24 (fr B) := by
  refine mk_MetZ (own := RX4) rfl rfl (Nat.le_of_ble_eq_true rfl) ?_
  intro p e s m below meth c ls cx hr hlk hnm wz hl
  have hl : lv_has ls 1 [(0, .ref (B + r))] := hl
  unfold zX4_init at hf
  refine lv_aload_n cx.1 cx.2.1 dX4_init_0 rfl (lv_at hl 0 rfl) ?_
  refine z_objInit cx hl.1 olX4_3 oi_obj oc_obj (Nat.le_of_ble_eq_true rfl) (by decide) dX4_init_1 ?_
  refine lv_aload_n cx.1 cx.2.1 dX4_init_4 rfl (lv_at hl 0 rfl) ?_
  refine lv_bipush (v := 6) cx.1 cx.2.1 dX4_init_5 (by decide) ?_
  refine z_newI cx wz ac_I (len := 6) (by decide) (by decide) hg.2.2.1 (by decide) (by decide) (by decide) dX4_init_7 (fun H wz => ?_)
  have wz : Wz G B (r + 1) s M H _ := wz
  obtain ⟨M1, e2, hf⟩ := lt_elim hf
  refine z_putF (v := (r + 1)) cx wz hg.1 (by omega) (by rw [hg.2.1]) fpX4_9 hnm (fun _ _ _ h => by cases h; rfl) (by omega) (fun _ => rfl) (fun _ => rfl) dX4_init_9 (fun H locs wz => ?_)
  rw [← e2] at wz
  refine lv_aload_n cx.1 cx.2.1 dX4_init_12 rfl (lv_at hl 0 rfl) ?_
  refine lv_bipush (v := 6) cx.1 cx.2.1 dX4_init_13 (by decide) ?_
  refine z_newI cx wz ac_I (len := 6) (by decide) (by decide) hg.2.2.2.1 (by decide) (by decide) (by decide) dX4_init_15 (fun H wz => ?_)
  have wz : Wz G B (r + 2) s M1 H _ := wz
  obtain ⟨M3, e4, hf⟩ := lt_elim hf
  refine z_putF (v := (r + 2)) cx wz hg.1 (by omega) (by rw [hg.2.1]) fpX4_15 hnm (fun _ _ _ h => by cases h; rfl) (by omega) (fun _ => rfl) (fun _ => rfl) dX4_init_17 (fun H locs wz => ?_)
  rw [← e4] at wz
  refine lv_aload_n cx.1 cx.2.1 dX4_init_20 rfl (lv_at hl 0 rfl) ?_
  refine lv_bipush (v := 6) cx.1 cx.2.1 dX4_init_21 (by decide) ?_
  refine z_newI cx wz ac_I (len := 6) (by decide) (by decide) hg.2.2.2.2.1 (by decide) (by decide) (by decide) dX4_init_23 (fun H wz => ?_)
  have wz : Wz G B (r + 3) s M3 H _ := wz
  obtain ⟨M5, e6, hf⟩ := lt_elim hf
  refine z_putF (v := (r + 3)) cx wz hg.1 (by omega) (by rw [hg.2.1]) fpX4_18 hnm (fun _ _ _ h => by cases h; rfl) (by omega) (fun _ => rfl) (fun _ => rfl) dX4_init_25 (fun H locs wz => ?_)
  rw [← e6] at wz
  refine lv_aload_n cx.1 cx.2.1 dX4_init_28 rfl (lv_at hl 0 rfl) ?_
  refine lv_bipush (v := 6) cx.1 cx.2.1 dX4_init_29 (by decide) ?_
  refine z_newI cx wz ac_I (len := 6) (by decide) (by decide) hg.2.2.2.2.2 (by decide) (by decide) (by decide) dX4_init_31 (fun H wz => ?_)
  have wz : Wz G B (r + 4) s M5 H _ := wz
  obtain ⟨M7, e8, hf⟩ := lt_elim hf
  refine z_putF (v := (r + 4)) cx wz hg.1 (by omega) (by rw [hg.2.1]) fpX4_21 hnm (fun _ _ _ h => by cases h; rfl) (by omega) (fun _ => rfl) (fun _ => rfl) dX4_init_33 (fun H locs wz => ?_)
  rw [← e8] at wz
  refine lv_aload_n cx.1 cx.2.1 dX4_init_36 rfl (lv_at hl 0 rfl) ?_
  refine lv_bipush (v := 9) cx.1 cx.2.1 dX4_init_37 (by decide) ?_
  obtain ⟨M9, e10, hf⟩ := lt_elim hf
  refine z_putI cx wz hg.1 (by omega) (by rw [hg.2.1]) fpX4_24 rfl rfl dX4_init_39 (fun H locs wz => ?_)
  rw [← e10] at wz
  refine lv_aload_n cx.1 cx.2.1 dX4_init_42 rfl (lv_at hl 0 rfl) ?_
  refine lv_bipush (v := 20) cx.1 cx.2.1 dX4_init_43 (by decide) ?_
  obtain ⟨M11, e12, hf⟩ := lt_elim hf
  refine z_putI cx wz hg.1 (by omega) (by rw [hg.2.1]) fpX4_28 rfl rfl dX4_init_45 (fun H locs wz => ?_)
  rw [← e12] at wz
  subst hf
  exact z_vret cx wz hr hlk dX4_init_48
def zX8_init (M : Mem) : Mem := lt (sR M 2 0 3) fun M1 => M1
theorem zX8_init_row {M : Mem} {b : Nat} (h : b < 2 ∨ 3 < b) : (zX8_init M).2.2 b = M.2.2 b := by
  unfold zX8_init
  simp only [lt]
  rw [sR_row (by omega)]
set_option maxHeartbeats 4000000 in
set_option maxRecDepth 20000 in
theorem zmX8_init (l : Launch) {G : GG} {B : Nat} {M q : Mem} (hf : zX8_init M = q) : Met l yX8_init (wsG yX8_init cX8_init 1 none) (rmZ 2 1 80) (PcZ G B 2 M [.ref (B + 2)]) (QcZ G B 3 q) 1 80 (fr B) := by
  refine mk_MetZ (own := RX8) rfl rfl (Nat.le_of_ble_eq_true rfl) ?_
  intro p e s m below meth c ls cx hr hlk hnm wz hl
  have hl : lv_has ls 1 [(0, .ref (B + 2))] := hl
  unfold zX8_init at hf
  refine lv_aload_n cx.1 cx.2.1 dX8_init_0 rfl (lv_at hl 0 rfl) ?_
  refine z_objInit cx hl.1 olX8_3 oi_obj oc_obj (Nat.le_of_ble_eq_true rfl) (by decide) dX8_init_1 ?_
  refine lv_aload_n cx.1 cx.2.1 dX8_init_4 rfl (lv_at hl 0 rfl) ?_
  refine lv_bipush (v := 80) cx.1 cx.2.1 dX8_init_5 (by decide) ?_
  refine z_newI cx wz ac_I (len := 80) (by decide) (by decide) (by decide +kernel) (by decide) (by decide) (by decide) dX8_init_7 (fun H wz => ?_)
  have wz : Wz G B 3 s M H _ := wz
  obtain ⟨M1, e2, hf⟩ := lt_elim hf
  refine z_putF (v := 3) cx wz ad_2.1 (by decide) ad_2.2.2 fpX8_9 hnm (fun _ _ _ h => by cases h; rfl) (by omega) (fun _ => rfl) (fun _ => rfl) dX8_init_9 (fun H locs wz => ?_)
  rw [← e2] at wz
  subst hf
  exact z_vret cx wz hr hlk dX8_init_12
def zX5_init (M : Mem) : Mem := lt (sR M 4 0 5) fun M1 => M1
theorem zX5_init_row {M : Mem} {b : Nat} (h : b < 4 ∨ 5 < b) : (zX5_init M).2.2 b = M.2.2 b := by
  unfold zX5_init
  simp only [lt]
  rw [sR_row (by omega)]
set_option maxHeartbeats 4000000 in
set_option maxRecDepth 20000 in
theorem zmX5_init (l : Launch) {G : GG} {B : Nat} {M q : Mem} (hf : zX5_init M = q) : Met l yX5_init (wsG yX5_init cX5_init 1 none) (rmZ 2 1 16) (PcZ G B 4 M [.ref (B + 4)]) (QcZ G B 5 q) 1 16 (fr B) := by
  refine mk_MetZ (own := RX5) rfl rfl (Nat.le_of_ble_eq_true rfl) ?_
  intro p e s m below meth c ls cx hr hlk hnm wz hl
  have hl : lv_has ls 1 [(0, .ref (B + 4))] := hl
  unfold zX5_init at hf
  refine lv_aload_n cx.1 cx.2.1 dX5_init_0 rfl (lv_at hl 0 rfl) ?_
  refine z_objInit cx hl.1 olX5_3 oi_obj oc_obj (Nat.le_of_ble_eq_true rfl) (by decide) dX5_init_1 ?_
  refine lv_aload_n cx.1 cx.2.1 dX5_init_4 rfl (lv_at hl 0 rfl) ?_
  refine lv_bipush (v := 16) cx.1 cx.2.1 dX5_init_5 (by decide) ?_
  refine z_newJ cx wz ac_J (len := 16) (by decide) (by decide) (by decide +kernel) (by decide) (by decide) (by decide) dX5_init_7 (fun H wz => ?_)
  have wz : Wz G B 5 s M H _ := wz
  obtain ⟨M1, e2, hf⟩ := lt_elim hf
  refine z_putF (v := 5) cx wz ad_4.1 (by decide) ad_4.2.2 fpX5_9 hnm (fun _ _ _ h => by cases h; rfl) (by omega) (fun _ => rfl) (fun _ => rfl) dX5_init_9 (fun H locs wz => ?_)
  rw [← e2] at wz
  subst hf
  exact z_vret cx wz hr hlk dX5_init_12
def zX2_init (M : Mem) : Mem := lt (sR M 26 0 27) fun M1 => lt (zX4_init 28 M1) fun M4 => lt (sR M4 27 (ix 0) 28) fun M7 => lt (zX4_init 33 M7) fun M10 => lt (sR M10 27 (ix 1) 33) fun M13 => lt (zX4_init 38 M13) fun M16 => lt (sR M16 27 (ix 2) 38) fun M19 => lt (zX4_init 43 M19) fun M22 => lt (sR M22 27 (ix 3) 43) fun M25 => lt (zX4_init 48 M25) fun M28 => lt (sR M28 27 (ix 4) 48) fun M31 => lt (zX4_init 53 M31) fun M34 => lt (sR M34 27 (ix 5) 53) fun M37 => lt (zX4_init 58 M37) fun M40 => lt (sR M40 27 (ix 6) 58) fun M43 => lt (zX4_init 63 M43) fun M46 => lt (sR M46 27 (ix 7) 63) fun M49 => lt (zX4_init 68 M49) fun M52 => lt (sR M52 27 (ix 8) 68) fun M55 => lt (zX4_init 73 M55) fun M58 => lt (sR M58 27 (ix 9) 73) fun M61 => lt (zX4_init 78 M61) fun M64 => lt (sR M64 27 (ix 10) 78) fun M67 => lt (zX4_init 83 M67) fun M70 => lt (sR M70 27 (ix 11) 83) fun M73 => lt (zX4_init 88 M73) fun M76 => lt (sR M76 27 (ix 12) 88) fun M79 => lt (zX4_init 93 M79) fun M82 => lt (sR M82 27 (ix 13) 93) fun M85 => lt (zX4_init 98 M85) fun M88 => lt (sR M88 27 (ix 14) 98) fun M91 => M91
theorem zX2_init_row {M : Mem} {b : Nat} (h : b < 26 ∨ 102 < b) : (zX2_init M).2.2 b = M.2.2 b := by
  unfold zX2_init
  simp only [lt]
  rw [sR_row (by omega)]
  rw [zX4_init_row (by omega)]
  rw [sR_row (by omega)]
  rw [zX4_init_row (by omega)]
  rw [sR_row (by omega)]
  rw [zX4_init_row (by omega)]
  rw [sR_row (by omega)]
  rw [zX4_init_row (by omega)]
  rw [sR_row (by omega)]
  rw [zX4_init_row (by omega)]
  rw [sR_row (by omega)]
  rw [zX4_init_row (by omega)]
  rw [sR_row (by omega)]
  rw [zX4_init_row (by omega)]
  rw [sR_row (by omega)]
  rw [zX4_init_row (by omega)]
  rw [sR_row (by omega)]
  rw [zX4_init_row (by omega)]
  rw [sR_row (by omega)]
  rw [zX4_init_row (by omega)]
  rw [sR_row (by omega)]
  rw [zX4_init_row (by omega)]
  rw [sR_row (by omega)]
  rw [zX4_init_row (by omega)]
  rw [sR_row (by omega)]
  rw [zX4_init_row (by omega)]
  rw [sR_row (by omega)]
  rw [zX4_init_row (by omega)]
  rw [sR_row (by omega)]
  rw [zX4_init_row (by omega)]
  rw [sR_row (by omega)]
set_option maxHeartbeats 4000000 in
set_option maxRecDepth 20000 in
theorem zmX2_init (l : Launch) {G : GG} {B : Nat} {M q : Mem} (hf : zX2_init M = q) : Met l yX2_init (wsG yX2_init cX2_init 2 none) (rmZ 3 76 510) (PcZ G B 26 M [.ref (B + 26)]) (QcZ G B 102 q) 76 510 (fr B) := by
  refine mk_MetZ (own := RX2) rfl rfl (Nat.le_of_ble_eq_true rfl) ?_
  intro p e s m below meth c ls cx hr hlk hnm wz hl
  have hl : lv_has ls 2 [(0, .ref (B + 26))] := hl
  unfold zX2_init at hf
  refine lv_aload_n cx.1 cx.2.1 dX2_init_0 rfl (lv_at hl 0 rfl) ?_
  refine z_objInit cx hl.1 olX2_3 oi_obj oc_obj (Nat.le_of_ble_eq_true rfl) (by decide) dX2_init_1 ?_
  refine lv_aload_n cx.1 cx.2.1 dX2_init_4 rfl (lv_at hl 0 rfl) ?_
  refine lv_bipush (v := 15) cx.1 cx.2.1 dX2_init_5 (by decide) ?_
  refine z_newR cx wz rlX2_9 (len := 15) (by decide) (by decide) (by decide +kernel) (by decide) (by decide) (by decide) dX2_init_7 (fun H wz => ?_)
  have wz : Wz G B 27 s M H _ := wz
  obtain ⟨M1, e2, hf⟩ := lt_elim hf
  refine z_putF (v := 27) cx wz ad_26.1 (by decide) ad_26.2.2 fpX2_11 hnm (fun _ _ _ h => by cases h; rfl) (by omega) (fun _ => rfl) (fun _ => rfl) dX2_init_10 (fun H locs wz => ?_)
  rw [← e2] at wz
  have f3 : M1.2.2 26 0 = 27 := by rw [e2]; exact sR_at
  refine lv_iconst (v := 0) cx.1 cx.2.1 dX2_init_13 (by decide) ?_
  refine lv_istore_n (lv' := [(1, .int 0), (0, .ref (B + 26))]) cx.1 cx.2.1 dX2_init_14 rfl hl (by decide) rfl (fun ls hl => ?_)
  refine lv_iload_n cx.1 cx.2.1 dX2_init_15 rfl (lv_at hl 0 rfl) ?_
  refine lv_bipush (v := 15) cx.1 cx.2.1 dX2_init_16 (by decide) ?_
  refine lv_icmp_ge (tgt := 40) cx.1 cx.2.1 dX2_init_18 (by decide) (fun c0 => absurd c0 (by decide)) (fun c0 => ?_)
  refine lv_aload_n cx.1 cx.2.1 dX2_init_21 rfl (lv_at hl 1 rfl) ?_
  refine r_getR cx wz.1 ad_26.1 (by decide) ad_26.2.2 fiX2_11 f3 (by decide) dX2_init_22 ?_
  refine lv_iload_n cx.1 cx.2.1 dX2_init_25 rfl (lv_at hl 0 rfl) ?_
  refine z_new cx wz niX2_9 ad_28.2.2 (by decide) (by decide) dX2_init_26 (fun H wz => ?_)
  have wz : Wz G B 28 s M1 H _ := wz
  refine lv_dup cx.1 cx.2.1 dX2_init_29 rfl ?_
  obtain ⟨M4, e5, hf⟩ := lt_elim hf
  refine z_init (rest := [.ref (B + 28), .int 0, .ref (B + 27)]) cx wz (zmX4_init l (by decide +kernel) e5.symm) ciX2_17 rfl hl.1 rfl (Nat.le_of_ble_eq_true rfl) ⟨by decide, by decide, by decide, by decide⟩ dX2_init_30 (fun H locs wz => ?_)
  have wz : Wz G B 32 s M4 H _ := wz
  have f6 : M4.2.2 26 0 = 27 := by rw [e5, zX4_init_row (b := 26) (by decide)]; exact f3
  obtain ⟨M7, e8, hf⟩ := lt_elim hf
  refine z_aast cx wz ad_27.1 (by decide) ad_27.2.2 (by rw [ln_27]; decide) ad_28.1 (by decide) ad_28.2.2 dX2_init_33 (fun H locs wz => ?_)
  rw [← e8] at wz
  have f9 : M7.2.2 26 0 = 27 := by rw [e8, sR_nb (by decide)]; exact f6
  refine lv_iinc (v := 1) (lv' := [(1, .int 1), (0, .ref (B + 26))]) cx.1 cx.2.1 dX2_init_34 hl (k := 0) rfl (by decide) (by decide) rfl (fun ls hl => ?_)
  refine lv_goto (tgt := 15) cx.1 cx.2.1 dX2_init_37 (by decide) ?_
  refine lv_iload_n cx.1 cx.2.1 dX2_init_15 rfl (lv_at hl 0 rfl) ?_
  refine lv_bipush (v := 15) cx.1 cx.2.1 dX2_init_16 (by decide) ?_
  refine lv_icmp_ge (tgt := 40) cx.1 cx.2.1 dX2_init_18 (by decide) (fun c0 => absurd c0 (by decide)) (fun c0 => ?_)
  refine lv_aload_n cx.1 cx.2.1 dX2_init_21 rfl (lv_at hl 1 rfl) ?_
  refine r_getR cx wz.1 ad_26.1 (by decide) ad_26.2.2 fiX2_11 f9 (by decide) dX2_init_22 ?_
  refine lv_iload_n cx.1 cx.2.1 dX2_init_25 rfl (lv_at hl 0 rfl) ?_
  refine z_new cx wz niX2_9 ad_33.2.2 (by decide) (by decide) dX2_init_26 (fun H wz => ?_)
  have wz : Wz G B 33 s M7 H _ := wz
  refine lv_dup cx.1 cx.2.1 dX2_init_29 rfl ?_
  obtain ⟨M10, e11, hf⟩ := lt_elim hf
  refine z_init (rest := [.ref (B + 33), .int 1, .ref (B + 27)]) cx wz (zmX4_init l (by decide +kernel) e11.symm) ciX2_17 rfl hl.1 rfl (Nat.le_of_ble_eq_true rfl) ⟨by decide, by decide, by decide, by decide⟩ dX2_init_30 (fun H locs wz => ?_)
  have wz : Wz G B 37 s M10 H _ := wz
  have f12 : M10.2.2 26 0 = 27 := by rw [e11, zX4_init_row (b := 26) (by decide)]; exact f9
  obtain ⟨M13, e14, hf⟩ := lt_elim hf
  refine z_aast cx wz ad_27.1 (by decide) ad_27.2.2 (by rw [ln_27]; decide) ad_33.1 (by decide) ad_33.2.2 dX2_init_33 (fun H locs wz => ?_)
  rw [← e14] at wz
  have f15 : M13.2.2 26 0 = 27 := by rw [e14, sR_nb (by decide)]; exact f12
  refine lv_iinc (v := 2) (lv' := [(1, .int 2), (0, .ref (B + 26))]) cx.1 cx.2.1 dX2_init_34 hl (k := 0) rfl (by decide) (by decide) rfl (fun ls hl => ?_)
  refine lv_goto (tgt := 15) cx.1 cx.2.1 dX2_init_37 (by decide) ?_
  refine lv_iload_n cx.1 cx.2.1 dX2_init_15 rfl (lv_at hl 0 rfl) ?_
  refine lv_bipush (v := 15) cx.1 cx.2.1 dX2_init_16 (by decide) ?_
  refine lv_icmp_ge (tgt := 40) cx.1 cx.2.1 dX2_init_18 (by decide) (fun c0 => absurd c0 (by decide)) (fun c0 => ?_)
  refine lv_aload_n cx.1 cx.2.1 dX2_init_21 rfl (lv_at hl 1 rfl) ?_
  refine r_getR cx wz.1 ad_26.1 (by decide) ad_26.2.2 fiX2_11 f15 (by decide) dX2_init_22 ?_
  refine lv_iload_n cx.1 cx.2.1 dX2_init_25 rfl (lv_at hl 0 rfl) ?_
  refine z_new cx wz niX2_9 ad_38.2.2 (by decide) (by decide) dX2_init_26 (fun H wz => ?_)
  have wz : Wz G B 38 s M13 H _ := wz
  refine lv_dup cx.1 cx.2.1 dX2_init_29 rfl ?_
  obtain ⟨M16, e17, hf⟩ := lt_elim hf
  refine z_init (rest := [.ref (B + 38), .int 2, .ref (B + 27)]) cx wz (zmX4_init l (by decide +kernel) e17.symm) ciX2_17 rfl hl.1 rfl (Nat.le_of_ble_eq_true rfl) ⟨by decide, by decide, by decide, by decide⟩ dX2_init_30 (fun H locs wz => ?_)
  have wz : Wz G B 42 s M16 H _ := wz
  have f18 : M16.2.2 26 0 = 27 := by rw [e17, zX4_init_row (b := 26) (by decide)]; exact f15
  obtain ⟨M19, e20, hf⟩ := lt_elim hf
  refine z_aast cx wz ad_27.1 (by decide) ad_27.2.2 (by rw [ln_27]; decide) ad_38.1 (by decide) ad_38.2.2 dX2_init_33 (fun H locs wz => ?_)
  rw [← e20] at wz
  have f21 : M19.2.2 26 0 = 27 := by rw [e20, sR_nb (by decide)]; exact f18
  refine lv_iinc (v := 3) (lv' := [(1, .int 3), (0, .ref (B + 26))]) cx.1 cx.2.1 dX2_init_34 hl (k := 0) rfl (by decide) (by decide) rfl (fun ls hl => ?_)
  refine lv_goto (tgt := 15) cx.1 cx.2.1 dX2_init_37 (by decide) ?_
  refine lv_iload_n cx.1 cx.2.1 dX2_init_15 rfl (lv_at hl 0 rfl) ?_
  refine lv_bipush (v := 15) cx.1 cx.2.1 dX2_init_16 (by decide) ?_
  refine lv_icmp_ge (tgt := 40) cx.1 cx.2.1 dX2_init_18 (by decide) (fun c0 => absurd c0 (by decide)) (fun c0 => ?_)
  refine lv_aload_n cx.1 cx.2.1 dX2_init_21 rfl (lv_at hl 1 rfl) ?_
  refine r_getR cx wz.1 ad_26.1 (by decide) ad_26.2.2 fiX2_11 f21 (by decide) dX2_init_22 ?_
  refine lv_iload_n cx.1 cx.2.1 dX2_init_25 rfl (lv_at hl 0 rfl) ?_
  refine z_new cx wz niX2_9 ad_43.2.2 (by decide) (by decide) dX2_init_26 (fun H wz => ?_)
  have wz : Wz G B 43 s M19 H _ := wz
  refine lv_dup cx.1 cx.2.1 dX2_init_29 rfl ?_
  obtain ⟨M22, e23, hf⟩ := lt_elim hf
  refine z_init (rest := [.ref (B + 43), .int 3, .ref (B + 27)]) cx wz (zmX4_init l (by decide +kernel) e23.symm) ciX2_17 rfl hl.1 rfl (Nat.le_of_ble_eq_true rfl) ⟨by decide, by decide, by decide, by decide⟩ dX2_init_30 (fun H locs wz => ?_)
  have wz : Wz G B 47 s M22 H _ := wz
  have f24 : M22.2.2 26 0 = 27 := by rw [e23, zX4_init_row (b := 26) (by decide)]; exact f21
  obtain ⟨M25, e26, hf⟩ := lt_elim hf
  refine z_aast cx wz ad_27.1 (by decide) ad_27.2.2 (by rw [ln_27]; decide) ad_43.1 (by decide) ad_43.2.2 dX2_init_33 (fun H locs wz => ?_)
  rw [← e26] at wz
  have f27 : M25.2.2 26 0 = 27 := by rw [e26, sR_nb (by decide)]; exact f24
  refine lv_iinc (v := 4) (lv' := [(1, .int 4), (0, .ref (B + 26))]) cx.1 cx.2.1 dX2_init_34 hl (k := 0) rfl (by decide) (by decide) rfl (fun ls hl => ?_)
  refine lv_goto (tgt := 15) cx.1 cx.2.1 dX2_init_37 (by decide) ?_
  refine lv_iload_n cx.1 cx.2.1 dX2_init_15 rfl (lv_at hl 0 rfl) ?_
  refine lv_bipush (v := 15) cx.1 cx.2.1 dX2_init_16 (by decide) ?_
  refine lv_icmp_ge (tgt := 40) cx.1 cx.2.1 dX2_init_18 (by decide) (fun c0 => absurd c0 (by decide)) (fun c0 => ?_)
  refine lv_aload_n cx.1 cx.2.1 dX2_init_21 rfl (lv_at hl 1 rfl) ?_
  refine r_getR cx wz.1 ad_26.1 (by decide) ad_26.2.2 fiX2_11 f27 (by decide) dX2_init_22 ?_
  refine lv_iload_n cx.1 cx.2.1 dX2_init_25 rfl (lv_at hl 0 rfl) ?_
  refine z_new cx wz niX2_9 ad_48.2.2 (by decide) (by decide) dX2_init_26 (fun H wz => ?_)
  have wz : Wz G B 48 s M25 H _ := wz
  refine lv_dup cx.1 cx.2.1 dX2_init_29 rfl ?_
  obtain ⟨M28, e29, hf⟩ := lt_elim hf
  refine z_init (rest := [.ref (B + 48), .int 4, .ref (B + 27)]) cx wz (zmX4_init l (by decide +kernel) e29.symm) ciX2_17 rfl hl.1 rfl (Nat.le_of_ble_eq_true rfl) ⟨by decide, by decide, by decide, by decide⟩ dX2_init_30 (fun H locs wz => ?_)
  have wz : Wz G B 52 s M28 H _ := wz
  have f30 : M28.2.2 26 0 = 27 := by rw [e29, zX4_init_row (b := 26) (by decide)]; exact f27
  obtain ⟨M31, e32, hf⟩ := lt_elim hf
  refine z_aast cx wz ad_27.1 (by decide) ad_27.2.2 (by rw [ln_27]; decide) ad_48.1 (by decide) ad_48.2.2 dX2_init_33 (fun H locs wz => ?_)
  rw [← e32] at wz
  have f33 : M31.2.2 26 0 = 27 := by rw [e32, sR_nb (by decide)]; exact f30
  refine lv_iinc (v := 5) (lv' := [(1, .int 5), (0, .ref (B + 26))]) cx.1 cx.2.1 dX2_init_34 hl (k := 0) rfl (by decide) (by decide) rfl (fun ls hl => ?_)
  refine lv_goto (tgt := 15) cx.1 cx.2.1 dX2_init_37 (by decide) ?_
  refine lv_iload_n cx.1 cx.2.1 dX2_init_15 rfl (lv_at hl 0 rfl) ?_
  refine lv_bipush (v := 15) cx.1 cx.2.1 dX2_init_16 (by decide) ?_
  refine lv_icmp_ge (tgt := 40) cx.1 cx.2.1 dX2_init_18 (by decide) (fun c0 => absurd c0 (by decide)) (fun c0 => ?_)
  refine lv_aload_n cx.1 cx.2.1 dX2_init_21 rfl (lv_at hl 1 rfl) ?_
  refine r_getR cx wz.1 ad_26.1 (by decide) ad_26.2.2 fiX2_11 f33 (by decide) dX2_init_22 ?_
  refine lv_iload_n cx.1 cx.2.1 dX2_init_25 rfl (lv_at hl 0 rfl) ?_
  refine z_new cx wz niX2_9 ad_53.2.2 (by decide) (by decide) dX2_init_26 (fun H wz => ?_)
  have wz : Wz G B 53 s M31 H _ := wz
  refine lv_dup cx.1 cx.2.1 dX2_init_29 rfl ?_
  obtain ⟨M34, e35, hf⟩ := lt_elim hf
  refine z_init (rest := [.ref (B + 53), .int 5, .ref (B + 27)]) cx wz (zmX4_init l (by decide +kernel) e35.symm) ciX2_17 rfl hl.1 rfl (Nat.le_of_ble_eq_true rfl) ⟨by decide, by decide, by decide, by decide⟩ dX2_init_30 (fun H locs wz => ?_)
  have wz : Wz G B 57 s M34 H _ := wz
  have f36 : M34.2.2 26 0 = 27 := by rw [e35, zX4_init_row (b := 26) (by decide)]; exact f33
  obtain ⟨M37, e38, hf⟩ := lt_elim hf
  refine z_aast cx wz ad_27.1 (by decide) ad_27.2.2 (by rw [ln_27]; decide) ad_53.1 (by decide) ad_53.2.2 dX2_init_33 (fun H locs wz => ?_)
  rw [← e38] at wz
  have f39 : M37.2.2 26 0 = 27 := by rw [e38, sR_nb (by decide)]; exact f36
  refine lv_iinc (v := 6) (lv' := [(1, .int 6), (0, .ref (B + 26))]) cx.1 cx.2.1 dX2_init_34 hl (k := 0) rfl (by decide) (by decide) rfl (fun ls hl => ?_)
  refine lv_goto (tgt := 15) cx.1 cx.2.1 dX2_init_37 (by decide) ?_
  refine lv_iload_n cx.1 cx.2.1 dX2_init_15 rfl (lv_at hl 0 rfl) ?_
  refine lv_bipush (v := 15) cx.1 cx.2.1 dX2_init_16 (by decide) ?_
  refine lv_icmp_ge (tgt := 40) cx.1 cx.2.1 dX2_init_18 (by decide) (fun c0 => absurd c0 (by decide)) (fun c0 => ?_)
  refine lv_aload_n cx.1 cx.2.1 dX2_init_21 rfl (lv_at hl 1 rfl) ?_
  refine r_getR cx wz.1 ad_26.1 (by decide) ad_26.2.2 fiX2_11 f39 (by decide) dX2_init_22 ?_
  refine lv_iload_n cx.1 cx.2.1 dX2_init_25 rfl (lv_at hl 0 rfl) ?_
  refine z_new cx wz niX2_9 ad_58.2.2 (by decide) (by decide) dX2_init_26 (fun H wz => ?_)
  have wz : Wz G B 58 s M37 H _ := wz
  refine lv_dup cx.1 cx.2.1 dX2_init_29 rfl ?_
  obtain ⟨M40, e41, hf⟩ := lt_elim hf
  refine z_init (rest := [.ref (B + 58), .int 6, .ref (B + 27)]) cx wz (zmX4_init l (by decide +kernel) e41.symm) ciX2_17 rfl hl.1 rfl (Nat.le_of_ble_eq_true rfl) ⟨by decide, by decide, by decide, by decide⟩ dX2_init_30 (fun H locs wz => ?_)
  have wz : Wz G B 62 s M40 H _ := wz
  have f42 : M40.2.2 26 0 = 27 := by rw [e41, zX4_init_row (b := 26) (by decide)]; exact f39
  obtain ⟨M43, e44, hf⟩ := lt_elim hf
  refine z_aast cx wz ad_27.1 (by decide) ad_27.2.2 (by rw [ln_27]; decide) ad_58.1 (by decide) ad_58.2.2 dX2_init_33 (fun H locs wz => ?_)
  rw [← e44] at wz
  have f45 : M43.2.2 26 0 = 27 := by rw [e44, sR_nb (by decide)]; exact f42
  refine lv_iinc (v := 7) (lv' := [(1, .int 7), (0, .ref (B + 26))]) cx.1 cx.2.1 dX2_init_34 hl (k := 0) rfl (by decide) (by decide) rfl (fun ls hl => ?_)
  refine lv_goto (tgt := 15) cx.1 cx.2.1 dX2_init_37 (by decide) ?_
  refine lv_iload_n cx.1 cx.2.1 dX2_init_15 rfl (lv_at hl 0 rfl) ?_
  refine lv_bipush (v := 15) cx.1 cx.2.1 dX2_init_16 (by decide) ?_
  refine lv_icmp_ge (tgt := 40) cx.1 cx.2.1 dX2_init_18 (by decide) (fun c0 => absurd c0 (by decide)) (fun c0 => ?_)
  refine lv_aload_n cx.1 cx.2.1 dX2_init_21 rfl (lv_at hl 1 rfl) ?_
  refine r_getR cx wz.1 ad_26.1 (by decide) ad_26.2.2 fiX2_11 f45 (by decide) dX2_init_22 ?_
  refine lv_iload_n cx.1 cx.2.1 dX2_init_25 rfl (lv_at hl 0 rfl) ?_
  refine z_new cx wz niX2_9 ad_63.2.2 (by decide) (by decide) dX2_init_26 (fun H wz => ?_)
  have wz : Wz G B 63 s M43 H _ := wz
  refine lv_dup cx.1 cx.2.1 dX2_init_29 rfl ?_
  obtain ⟨M46, e47, hf⟩ := lt_elim hf
  refine z_init (rest := [.ref (B + 63), .int 7, .ref (B + 27)]) cx wz (zmX4_init l (by decide +kernel) e47.symm) ciX2_17 rfl hl.1 rfl (Nat.le_of_ble_eq_true rfl) ⟨by decide, by decide, by decide, by decide⟩ dX2_init_30 (fun H locs wz => ?_)
  have wz : Wz G B 67 s M46 H _ := wz
  have f48 : M46.2.2 26 0 = 27 := by rw [e47, zX4_init_row (b := 26) (by decide)]; exact f45
  obtain ⟨M49, e50, hf⟩ := lt_elim hf
  refine z_aast cx wz ad_27.1 (by decide) ad_27.2.2 (by rw [ln_27]; decide) ad_63.1 (by decide) ad_63.2.2 dX2_init_33 (fun H locs wz => ?_)
  rw [← e50] at wz
  have f51 : M49.2.2 26 0 = 27 := by rw [e50, sR_nb (by decide)]; exact f48
  refine lv_iinc (v := 8) (lv' := [(1, .int 8), (0, .ref (B + 26))]) cx.1 cx.2.1 dX2_init_34 hl (k := 0) rfl (by decide) (by decide) rfl (fun ls hl => ?_)
  refine lv_goto (tgt := 15) cx.1 cx.2.1 dX2_init_37 (by decide) ?_
  refine lv_iload_n cx.1 cx.2.1 dX2_init_15 rfl (lv_at hl 0 rfl) ?_
  refine lv_bipush (v := 15) cx.1 cx.2.1 dX2_init_16 (by decide) ?_
  refine lv_icmp_ge (tgt := 40) cx.1 cx.2.1 dX2_init_18 (by decide) (fun c0 => absurd c0 (by decide)) (fun c0 => ?_)
  refine lv_aload_n cx.1 cx.2.1 dX2_init_21 rfl (lv_at hl 1 rfl) ?_
  refine r_getR cx wz.1 ad_26.1 (by decide) ad_26.2.2 fiX2_11 f51 (by decide) dX2_init_22 ?_
  refine lv_iload_n cx.1 cx.2.1 dX2_init_25 rfl (lv_at hl 0 rfl) ?_
  refine z_new cx wz niX2_9 ad_68.2.2 (by decide) (by decide) dX2_init_26 (fun H wz => ?_)
  have wz : Wz G B 68 s M49 H _ := wz
  refine lv_dup cx.1 cx.2.1 dX2_init_29 rfl ?_
  obtain ⟨M52, e53, hf⟩ := lt_elim hf
  refine z_init (rest := [.ref (B + 68), .int 8, .ref (B + 27)]) cx wz (zmX4_init l (by decide +kernel) e53.symm) ciX2_17 rfl hl.1 rfl (Nat.le_of_ble_eq_true rfl) ⟨by decide, by decide, by decide, by decide⟩ dX2_init_30 (fun H locs wz => ?_)
  have wz : Wz G B 72 s M52 H _ := wz
  have f54 : M52.2.2 26 0 = 27 := by rw [e53, zX4_init_row (b := 26) (by decide)]; exact f51
  obtain ⟨M55, e56, hf⟩ := lt_elim hf
  refine z_aast cx wz ad_27.1 (by decide) ad_27.2.2 (by rw [ln_27]; decide) ad_68.1 (by decide) ad_68.2.2 dX2_init_33 (fun H locs wz => ?_)
  rw [← e56] at wz
  have f57 : M55.2.2 26 0 = 27 := by rw [e56, sR_nb (by decide)]; exact f54
  refine lv_iinc (v := 9) (lv' := [(1, .int 9), (0, .ref (B + 26))]) cx.1 cx.2.1 dX2_init_34 hl (k := 0) rfl (by decide) (by decide) rfl (fun ls hl => ?_)
  refine lv_goto (tgt := 15) cx.1 cx.2.1 dX2_init_37 (by decide) ?_
  refine lv_iload_n cx.1 cx.2.1 dX2_init_15 rfl (lv_at hl 0 rfl) ?_
  refine lv_bipush (v := 15) cx.1 cx.2.1 dX2_init_16 (by decide) ?_
  refine lv_icmp_ge (tgt := 40) cx.1 cx.2.1 dX2_init_18 (by decide) (fun c0 => absurd c0 (by decide)) (fun c0 => ?_)
  refine lv_aload_n cx.1 cx.2.1 dX2_init_21 rfl (lv_at hl 1 rfl) ?_
  refine r_getR cx wz.1 ad_26.1 (by decide) ad_26.2.2 fiX2_11 f57 (by decide) dX2_init_22 ?_
  refine lv_iload_n cx.1 cx.2.1 dX2_init_25 rfl (lv_at hl 0 rfl) ?_
  refine z_new cx wz niX2_9 ad_73.2.2 (by decide) (by decide) dX2_init_26 (fun H wz => ?_)
  have wz : Wz G B 73 s M55 H _ := wz
  refine lv_dup cx.1 cx.2.1 dX2_init_29 rfl ?_
  obtain ⟨M58, e59, hf⟩ := lt_elim hf
  refine z_init (rest := [.ref (B + 73), .int 9, .ref (B + 27)]) cx wz (zmX4_init l (by decide +kernel) e59.symm) ciX2_17 rfl hl.1 rfl (Nat.le_of_ble_eq_true rfl) ⟨by decide, by decide, by decide, by decide⟩ dX2_init_30 (fun H locs wz => ?_)
  have wz : Wz G B 77 s M58 H _ := wz
  have f60 : M58.2.2 26 0 = 27 := by rw [e59, zX4_init_row (b := 26) (by decide)]; exact f57
  obtain ⟨M61, e62, hf⟩ := lt_elim hf
  refine z_aast cx wz ad_27.1 (by decide) ad_27.2.2 (by rw [ln_27]; decide) ad_73.1 (by decide) ad_73.2.2 dX2_init_33 (fun H locs wz => ?_)
  rw [← e62] at wz
  have f63 : M61.2.2 26 0 = 27 := by rw [e62, sR_nb (by decide)]; exact f60
  refine lv_iinc (v := 10) (lv' := [(1, .int 10), (0, .ref (B + 26))]) cx.1 cx.2.1 dX2_init_34 hl (k := 0) rfl (by decide) (by decide) rfl (fun ls hl => ?_)
  refine lv_goto (tgt := 15) cx.1 cx.2.1 dX2_init_37 (by decide) ?_
  refine lv_iload_n cx.1 cx.2.1 dX2_init_15 rfl (lv_at hl 0 rfl) ?_
  refine lv_bipush (v := 15) cx.1 cx.2.1 dX2_init_16 (by decide) ?_
  refine lv_icmp_ge (tgt := 40) cx.1 cx.2.1 dX2_init_18 (by decide) (fun c0 => absurd c0 (by decide)) (fun c0 => ?_)
  refine lv_aload_n cx.1 cx.2.1 dX2_init_21 rfl (lv_at hl 1 rfl) ?_
  refine r_getR cx wz.1 ad_26.1 (by decide) ad_26.2.2 fiX2_11 f63 (by decide) dX2_init_22 ?_
  refine lv_iload_n cx.1 cx.2.1 dX2_init_25 rfl (lv_at hl 0 rfl) ?_
  refine z_new cx wz niX2_9 ad_78.2.2 (by decide) (by decide) dX2_init_26 (fun H wz => ?_)
  have wz : Wz G B 78 s M61 H _ := wz
  refine lv_dup cx.1 cx.2.1 dX2_init_29 rfl ?_
  obtain ⟨M64, e65, hf⟩ := lt_elim hf
  refine z_init (rest := [.ref (B + 78), .int 10, .ref (B + 27)]) cx wz (zmX4_init l (by decide +kernel) e65.symm) ciX2_17 rfl hl.1 rfl (Nat.le_of_ble_eq_true rfl) ⟨by decide, by decide, by decide, by decide⟩ dX2_init_30 (fun H locs wz => ?_)
  have wz : Wz G B 82 s M64 H _ := wz
  have f66 : M64.2.2 26 0 = 27 := by rw [e65, zX4_init_row (b := 26) (by decide)]; exact f63
  obtain ⟨M67, e68, hf⟩ := lt_elim hf
  refine z_aast cx wz ad_27.1 (by decide) ad_27.2.2 (by rw [ln_27]; decide) ad_78.1 (by decide) ad_78.2.2 dX2_init_33 (fun H locs wz => ?_)
  rw [← e68] at wz
  have f69 : M67.2.2 26 0 = 27 := by rw [e68, sR_nb (by decide)]; exact f66
  refine lv_iinc (v := 11) (lv' := [(1, .int 11), (0, .ref (B + 26))]) cx.1 cx.2.1 dX2_init_34 hl (k := 0) rfl (by decide) (by decide) rfl (fun ls hl => ?_)
  refine lv_goto (tgt := 15) cx.1 cx.2.1 dX2_init_37 (by decide) ?_
  refine lv_iload_n cx.1 cx.2.1 dX2_init_15 rfl (lv_at hl 0 rfl) ?_
  refine lv_bipush (v := 15) cx.1 cx.2.1 dX2_init_16 (by decide) ?_
  refine lv_icmp_ge (tgt := 40) cx.1 cx.2.1 dX2_init_18 (by decide) (fun c0 => absurd c0 (by decide)) (fun c0 => ?_)
  refine lv_aload_n cx.1 cx.2.1 dX2_init_21 rfl (lv_at hl 1 rfl) ?_
  refine r_getR cx wz.1 ad_26.1 (by decide) ad_26.2.2 fiX2_11 f69 (by decide) dX2_init_22 ?_
  refine lv_iload_n cx.1 cx.2.1 dX2_init_25 rfl (lv_at hl 0 rfl) ?_
  refine z_new cx wz niX2_9 ad_83.2.2 (by decide) (by decide) dX2_init_26 (fun H wz => ?_)
  have wz : Wz G B 83 s M67 H _ := wz
  refine lv_dup cx.1 cx.2.1 dX2_init_29 rfl ?_
  obtain ⟨M70, e71, hf⟩ := lt_elim hf
  refine z_init (rest := [.ref (B + 83), .int 11, .ref (B + 27)]) cx wz (zmX4_init l (by decide +kernel) e71.symm) ciX2_17 rfl hl.1 rfl (Nat.le_of_ble_eq_true rfl) ⟨by decide, by decide, by decide, by decide⟩ dX2_init_30 (fun H locs wz => ?_)
  have wz : Wz G B 87 s M70 H _ := wz
  have f72 : M70.2.2 26 0 = 27 := by rw [e71, zX4_init_row (b := 26) (by decide)]; exact f69
  obtain ⟨M73, e74, hf⟩ := lt_elim hf
  refine z_aast cx wz ad_27.1 (by decide) ad_27.2.2 (by rw [ln_27]; decide) ad_83.1 (by decide) ad_83.2.2 dX2_init_33 (fun H locs wz => ?_)
  rw [← e74] at wz
  have f75 : M73.2.2 26 0 = 27 := by rw [e74, sR_nb (by decide)]; exact f72
  refine lv_iinc (v := 12) (lv' := [(1, .int 12), (0, .ref (B + 26))]) cx.1 cx.2.1 dX2_init_34 hl (k := 0) rfl (by decide) (by decide) rfl (fun ls hl => ?_)
  refine lv_goto (tgt := 15) cx.1 cx.2.1 dX2_init_37 (by decide) ?_
  refine lv_iload_n cx.1 cx.2.1 dX2_init_15 rfl (lv_at hl 0 rfl) ?_
  refine lv_bipush (v := 15) cx.1 cx.2.1 dX2_init_16 (by decide) ?_
  refine lv_icmp_ge (tgt := 40) cx.1 cx.2.1 dX2_init_18 (by decide) (fun c0 => absurd c0 (by decide)) (fun c0 => ?_)
  refine lv_aload_n cx.1 cx.2.1 dX2_init_21 rfl (lv_at hl 1 rfl) ?_
  refine r_getR cx wz.1 ad_26.1 (by decide) ad_26.2.2 fiX2_11 f75 (by decide) dX2_init_22 ?_
  refine lv_iload_n cx.1 cx.2.1 dX2_init_25 rfl (lv_at hl 0 rfl) ?_
  refine z_new cx wz niX2_9 ad_88.2.2 (by decide) (by decide) dX2_init_26 (fun H wz => ?_)
  have wz : Wz G B 88 s M73 H _ := wz
  refine lv_dup cx.1 cx.2.1 dX2_init_29 rfl ?_
  obtain ⟨M76, e77, hf⟩ := lt_elim hf
  refine z_init (rest := [.ref (B + 88), .int 12, .ref (B + 27)]) cx wz (zmX4_init l (by decide +kernel) e77.symm) ciX2_17 rfl hl.1 rfl (Nat.le_of_ble_eq_true rfl) ⟨by decide, by decide, by decide, by decide⟩ dX2_init_30 (fun H locs wz => ?_)
  have wz : Wz G B 92 s M76 H _ := wz
  have f78 : M76.2.2 26 0 = 27 := by rw [e77, zX4_init_row (b := 26) (by decide)]; exact f75
  obtain ⟨M79, e80, hf⟩ := lt_elim hf
  refine z_aast cx wz ad_27.1 (by decide) ad_27.2.2 (by rw [ln_27]; decide) ad_88.1 (by decide) ad_88.2.2 dX2_init_33 (fun H locs wz => ?_)
  rw [← e80] at wz
  have f81 : M79.2.2 26 0 = 27 := by rw [e80, sR_nb (by decide)]; exact f78
  refine lv_iinc (v := 13) (lv' := [(1, .int 13), (0, .ref (B + 26))]) cx.1 cx.2.1 dX2_init_34 hl (k := 0) rfl (by decide) (by decide) rfl (fun ls hl => ?_)
  refine lv_goto (tgt := 15) cx.1 cx.2.1 dX2_init_37 (by decide) ?_
  refine lv_iload_n cx.1 cx.2.1 dX2_init_15 rfl (lv_at hl 0 rfl) ?_
  refine lv_bipush (v := 15) cx.1 cx.2.1 dX2_init_16 (by decide) ?_
  refine lv_icmp_ge (tgt := 40) cx.1 cx.2.1 dX2_init_18 (by decide) (fun c0 => absurd c0 (by decide)) (fun c0 => ?_)
  refine lv_aload_n cx.1 cx.2.1 dX2_init_21 rfl (lv_at hl 1 rfl) ?_
  refine r_getR cx wz.1 ad_26.1 (by decide) ad_26.2.2 fiX2_11 f81 (by decide) dX2_init_22 ?_
  refine lv_iload_n cx.1 cx.2.1 dX2_init_25 rfl (lv_at hl 0 rfl) ?_
  refine z_new cx wz niX2_9 ad_93.2.2 (by decide) (by decide) dX2_init_26 (fun H wz => ?_)
  have wz : Wz G B 93 s M79 H _ := wz
  refine lv_dup cx.1 cx.2.1 dX2_init_29 rfl ?_
  obtain ⟨M82, e83, hf⟩ := lt_elim hf
  refine z_init (rest := [.ref (B + 93), .int 13, .ref (B + 27)]) cx wz (zmX4_init l (by decide +kernel) e83.symm) ciX2_17 rfl hl.1 rfl (Nat.le_of_ble_eq_true rfl) ⟨by decide, by decide, by decide, by decide⟩ dX2_init_30 (fun H locs wz => ?_)
  have wz : Wz G B 97 s M82 H _ := wz
  have f84 : M82.2.2 26 0 = 27 := by rw [e83, zX4_init_row (b := 26) (by decide)]; exact f81
  obtain ⟨M85, e86, hf⟩ := lt_elim hf
  refine z_aast cx wz ad_27.1 (by decide) ad_27.2.2 (by rw [ln_27]; decide) ad_93.1 (by decide) ad_93.2.2 dX2_init_33 (fun H locs wz => ?_)
  rw [← e86] at wz
  have f87 : M85.2.2 26 0 = 27 := by rw [e86, sR_nb (by decide)]; exact f84
  refine lv_iinc (v := 14) (lv' := [(1, .int 14), (0, .ref (B + 26))]) cx.1 cx.2.1 dX2_init_34 hl (k := 0) rfl (by decide) (by decide) rfl (fun ls hl => ?_)
  refine lv_goto (tgt := 15) cx.1 cx.2.1 dX2_init_37 (by decide) ?_
  refine lv_iload_n cx.1 cx.2.1 dX2_init_15 rfl (lv_at hl 0 rfl) ?_
  refine lv_bipush (v := 15) cx.1 cx.2.1 dX2_init_16 (by decide) ?_
  refine lv_icmp_ge (tgt := 40) cx.1 cx.2.1 dX2_init_18 (by decide) (fun c0 => absurd c0 (by decide)) (fun c0 => ?_)
  refine lv_aload_n cx.1 cx.2.1 dX2_init_21 rfl (lv_at hl 1 rfl) ?_
  refine r_getR cx wz.1 ad_26.1 (by decide) ad_26.2.2 fiX2_11 f87 (by decide) dX2_init_22 ?_
  refine lv_iload_n cx.1 cx.2.1 dX2_init_25 rfl (lv_at hl 0 rfl) ?_
  refine z_new cx wz niX2_9 ad_98.2.2 (by decide) (by decide) dX2_init_26 (fun H wz => ?_)
  have wz : Wz G B 98 s M85 H _ := wz
  refine lv_dup cx.1 cx.2.1 dX2_init_29 rfl ?_
  obtain ⟨M88, e89, hf⟩ := lt_elim hf
  refine z_init (rest := [.ref (B + 98), .int 14, .ref (B + 27)]) cx wz (zmX4_init l (by decide +kernel) e89.symm) ciX2_17 rfl hl.1 rfl (Nat.le_of_ble_eq_true rfl) ⟨by decide, by decide, by decide, by decide⟩ dX2_init_30 (fun H locs wz => ?_)
  have wz : Wz G B 102 s M88 H _ := wz
  have f90 : M88.2.2 26 0 = 27 := by rw [e89, zX4_init_row (b := 26) (by decide)]; exact f87
  obtain ⟨M91, e92, hf⟩ := lt_elim hf
  refine z_aast cx wz ad_27.1 (by decide) ad_27.2.2 (by rw [ln_27]; decide) ad_98.1 (by decide) ad_98.2.2 dX2_init_33 (fun H locs wz => ?_)
  rw [← e92] at wz
  have f93 : M91.2.2 26 0 = 27 := by rw [e92, sR_nb (by decide)]; exact f90
  refine lv_iinc (v := 15) (lv' := [(1, .int 15), (0, .ref (B + 26))]) cx.1 cx.2.1 dX2_init_34 hl (k := 0) rfl (by decide) (by decide) rfl (fun ls hl => ?_)
  refine lv_goto (tgt := 15) cx.1 cx.2.1 dX2_init_37 (by decide) ?_
  refine lv_iload_n cx.1 cx.2.1 dX2_init_15 rfl (lv_at hl 0 rfl) ?_
  refine lv_bipush (v := 15) cx.1 cx.2.1 dX2_init_16 (by decide) ?_
  refine lv_icmp_ge (tgt := 40) cx.1 cx.2.1 dX2_init_18 (by decide) (fun c0 => ?_) (fun c0 => absurd (by decide) c0)
  subst hf
  exact z_vret cx wz hr hlk dX2_init_40
def zX7_init (M : Mem) : Mem := lt (sR M 105 0 106) fun M1 => lt (sR M1 105 1 107) fun M3 => M3
theorem zX7_init_row {M : Mem} {b : Nat} (h : b < 105 ∨ 107 < b) : (zX7_init M).2.2 b = M.2.2 b := by
  unfold zX7_init
  simp only [lt]
  rw [sR_row (by omega)]
  rw [sR_row (by omega)]
set_option maxHeartbeats 4000000 in
set_option maxRecDepth 20000 in
theorem zmX7_init (l : Launch) {G : GG} {B : Nat} {M q : Mem} (hf : zX7_init M = q) : Met l yX7_init (wsG yX7_init cX7_init 1 none) (rmZ 2 2 24) (PcZ G B 105 M [.ref (B + 105)]) (QcZ G B 107 q) 2 24 (fr B) := by
  refine mk_MetZ (own := RX7) rfl rfl (Nat.le_of_ble_eq_true rfl) ?_
  intro p e s m below meth c ls cx hr hlk hnm wz hl
  have hl : lv_has ls 1 [(0, .ref (B + 105))] := hl
  unfold zX7_init at hf
  refine lv_aload_n cx.1 cx.2.1 dX7_init_0 rfl (lv_at hl 0 rfl) ?_
  refine z_objInit cx hl.1 olX7_3 oi_obj oc_obj (Nat.le_of_ble_eq_true rfl) (by decide) dX7_init_1 ?_
  refine lv_aload_n cx.1 cx.2.1 dX7_init_4 rfl (lv_at hl 0 rfl) ?_
  refine lv_bipush (v := 12) cx.1 cx.2.1 dX7_init_5 (by decide) ?_
  refine z_newI cx wz ac_I (len := 12) (by decide) (by decide) (by decide +kernel) (by decide) (by decide) (by decide) dX7_init_7 (fun H wz => ?_)
  have wz : Wz G B 106 s M H _ := wz
  obtain ⟨M1, e2, hf⟩ := lt_elim hf
  refine z_putF (v := 106) cx wz ad_105.1 (by decide) ad_105.2.2 fpX7_9 hnm (fun _ _ _ h => by cases h; rfl) (by omega) (fun _ => rfl) (fun _ => rfl) dX7_init_9 (fun H locs wz => ?_)
  rw [← e2] at wz
  refine lv_aload_n cx.1 cx.2.1 dX7_init_12 rfl (lv_at hl 0 rfl) ?_
  refine lv_bipush (v := 12) cx.1 cx.2.1 dX7_init_13 (by decide) ?_
  refine z_newI cx wz ac_I (len := 12) (by decide) (by decide) (by decide +kernel) (by decide) (by decide) (by decide) dX7_init_15 (fun H wz => ?_)
  have wz : Wz G B 107 s M1 H _ := wz
  obtain ⟨M3, e4, hf⟩ := lt_elim hf
  refine z_putF (v := 107) cx wz ad_105.1 (by decide) ad_105.2.2 fpX7_15 hnm (fun _ _ _ h => by cases h; rfl) (by omega) (fun _ => rfl) (fun _ => rfl) dX7_init_17 (fun H locs wz => ?_)
  rw [← e4] at wz
  subst hf
  exact z_vret cx wz hr hlk dX7_init_20
def zX3_init (M : Mem) : Mem := lt (sR M 108 1 109) fun M1 => lt (sR M1 108 2 110) fun M3 => lt (sR M3 108 3 111) fun M5 => lt (sR M5 108 6 112) fun M7 => lt (sR M7 108 7 113) fun M9 => lt (sR M9 108 8 114) fun M11 => M11
theorem zX3_init_row {M : Mem} {b : Nat} (h : b < 108 ∨ 114 < b) : (zX3_init M).2.2 b = M.2.2 b := by
  unfold zX3_init
  simp only [lt]
  rw [sR_row (by omega)]
  rw [sR_row (by omega)]
  rw [sR_row (by omega)]
  rw [sR_row (by omega)]
  rw [sR_row (by omega)]
  rw [sR_row (by omega)]
set_option maxHeartbeats 4000000 in
set_option maxRecDepth 20000 in
theorem zmX3_init (l : Launch) {G : GG} {B : Nat} {M q : Mem} (hf : zX3_init M = q) : Met l yX3_init (wsG yX3_init cX3_init 1 none) (rmZ 2 6 27) (PcZ G B 108 M [.ref (B + 108)]) (QcZ G B 114 q) 6 27 (fr B) := by
  refine mk_MetZ (own := RX3) rfl rfl (Nat.le_of_ble_eq_true rfl) ?_
  intro p e s m below meth c ls cx hr hlk hnm wz hl
  have hl : lv_has ls 1 [(0, .ref (B + 108))] := hl
  unfold zX3_init at hf
  refine lv_aload_n cx.1 cx.2.1 dX3_init_0 rfl (lv_at hl 0 rfl) ?_
  refine z_objInit cx hl.1 olX3_3 oi_obj oc_obj (Nat.le_of_ble_eq_true rfl) (by decide) dX3_init_1 ?_
  refine lv_aload_n cx.1 cx.2.1 dX3_init_4 rfl (lv_at hl 0 rfl) ?_
  refine lv_bipush (v := 6) cx.1 cx.2.1 dX3_init_5 (by decide) ?_
  refine z_newI cx wz ac_I (len := 6) (by decide) (by decide) (by decide +kernel) (by decide) (by decide) (by decide) dX3_init_7 (fun H wz => ?_)
  have wz : Wz G B 109 s M H _ := wz
  obtain ⟨M1, e2, hf⟩ := lt_elim hf
  refine z_putF (v := 109) cx wz ad_108.1 (by decide) ad_108.2.2 fpX3_9 hnm (fun _ _ _ h => by cases h; rfl) (by omega) (fun _ => rfl) (fun _ => rfl) dX3_init_9 (fun H locs wz => ?_)
  rw [← e2] at wz
  refine lv_aload_n cx.1 cx.2.1 dX3_init_12 rfl (lv_at hl 0 rfl) ?_
  refine lv_bipush (v := 6) cx.1 cx.2.1 dX3_init_13 (by decide) ?_
  refine z_newZ cx wz ac_Z (len := 6) (by decide) (by decide) (by decide +kernel) (by decide) (by decide) (by decide) dX3_init_15 (fun H wz => ?_)
  have wz : Wz G B 110 s M1 H _ := wz
  obtain ⟨M3, e4, hf⟩ := lt_elim hf
  refine z_putF (v := 110) cx wz ad_108.1 (by decide) ad_108.2.2 fpX3_15 hnm (fun _ _ _ h => by cases h; rfl) (by omega) (fun _ => rfl) (fun _ => rfl) dX3_init_17 (fun H locs wz => ?_)
  rw [← e4] at wz
  refine lv_aload_n cx.1 cx.2.1 dX3_init_20 rfl (lv_at hl 0 rfl) ?_
  refine lv_bipush (v := 6) cx.1 cx.2.1 dX3_init_21 (by decide) ?_
  refine z_newI cx wz ac_I (len := 6) (by decide) (by decide) (by decide +kernel) (by decide) (by decide) (by decide) dX3_init_23 (fun H wz => ?_)
  have wz : Wz G B 111 s M3 H _ := wz
  obtain ⟨M5, e6, hf⟩ := lt_elim hf
  refine z_putF (v := 111) cx wz ad_108.1 (by decide) ad_108.2.2 fpX3_19 hnm (fun _ _ _ h => by cases h; rfl) (by omega) (fun _ => rfl) (fun _ => rfl) dX3_init_25 (fun H locs wz => ?_)
  rw [← e6] at wz
  refine lv_aload_n cx.1 cx.2.1 dX3_init_28 rfl (lv_at hl 0 rfl) ?_
  refine lv_iconst (v := 3) cx.1 cx.2.1 dX3_init_29 (by decide) ?_
  refine z_newI cx wz ac_I (len := 3) (by decide) (by decide) (by decide +kernel) (by decide) (by decide) (by decide) dX3_init_30 (fun H wz => ?_)
  have wz : Wz G B 112 s M5 H _ := wz
  obtain ⟨M7, e8, hf⟩ := lt_elim hf
  refine z_putF (v := 112) cx wz ad_108.1 (by decide) ad_108.2.2 fpX3_22 hnm (fun _ _ _ h => by cases h; rfl) (by omega) (fun _ => rfl) (fun _ => rfl) dX3_init_32 (fun H locs wz => ?_)
  rw [← e8] at wz
  refine lv_aload_n cx.1 cx.2.1 dX3_init_35 rfl (lv_at hl 0 rfl) ?_
  refine lv_iconst (v := 3) cx.1 cx.2.1 dX3_init_36 (by decide) ?_
  refine z_newI cx wz ac_I (len := 3) (by decide) (by decide) (by decide +kernel) (by decide) (by decide) (by decide) dX3_init_37 (fun H wz => ?_)
  have wz : Wz G B 113 s M7 H _ := wz
  obtain ⟨M9, e10, hf⟩ := lt_elim hf
  refine z_putF (v := 113) cx wz ad_108.1 (by decide) ad_108.2.2 fpX3_25 hnm (fun _ _ _ h => by cases h; rfl) (by omega) (fun _ => rfl) (fun _ => rfl) dX3_init_39 (fun H locs wz => ?_)
  rw [← e10] at wz
  refine lv_aload_n cx.1 cx.2.1 dX3_init_42 rfl (lv_at hl 0 rfl) ?_
  refine lv_iconst (v := 3) cx.1 cx.2.1 dX3_init_43 (by decide) ?_
  refine z_newI cx wz ac_I (len := 3) (by decide) (by decide) (by decide +kernel) (by decide) (by decide) (by decide) dX3_init_44 (fun H wz => ?_)
  have wz : Wz G B 114 s M9 H _ := wz
  obtain ⟨M11, e12, hf⟩ := lt_elim hf
  refine z_putF (v := 114) cx wz ad_108.1 (by decide) ad_108.2.2 fpX3_28 hnm (fun _ _ _ h => by cases h; rfl) (by omega) (fun _ => rfl) (fun _ => rfl) dX3_init_46 (fun H locs wz => ?_)
  rw [← e12] at wz
  subst hf
  exact z_vret cx wz hr hlk dX3_init_49
def zX1_init (M : Mem) : Mem := lt (sI M 115 0 (-1)) fun M1 => lt (zMul M1 116) fun M3 => lt (sR M3 115 5 116) fun M5 => lt (sR M5 115 6 137) fun M7 => lt (sR M7 115 7 138) fun M9 => lt (sR M9 115 8 139) fun M11 => lt (sR M11 115 9 140) fun M13 => M13
theorem zX1_init_row {M : Mem} {b : Nat} (h : b < 115 ∨ 140 < b) : (zX1_init M).2.2 b = M.2.2 b := by
  unfold zX1_init
  simp only [lt]
  rw [sR_row (by omega)]
  rw [sR_row (by omega)]
  rw [sR_row (by omega)]
  rw [sR_row (by omega)]
  rw [sR_row (by omega)]
  rw [zMul_row (by omega)]
  rw [sI_row]
set_option maxHeartbeats 4000000 in
set_option maxRecDepth 20000 in
theorem zmX1_init (l : Launch) {G : GG} {B : Nat} {M q : Mem} (hf : zX1_init M = q) : Met l yX1_init (wsG yX1_init cX1_init 1 none) (rmZ 2 25 878) (PcZ G B 115 M [.ref (B + 115)]) (QcZ G B 140 q) 25 878 (fr B) := by
  refine mk_MetZ (own := RX1) rfl rfl (Nat.le_of_ble_eq_true rfl) ?_
  intro p e s m below meth c ls cx hr hlk hnm wz hl
  have hl : lv_has ls 1 [(0, .ref (B + 115))] := hl
  unfold zX1_init at hf
  refine lv_aload_n cx.1 cx.2.1 dX1_init_0 rfl (lv_at hl 0 rfl) ?_
  refine z_objInit cx hl.1 olX1_3 oi_obj oc_obj (Nat.le_of_ble_eq_true rfl) (by decide) dX1_init_1 ?_
  refine lv_aload_n cx.1 cx.2.1 dX1_init_4 rfl (lv_at hl 0 rfl) ?_
  refine lv_iconst (v := (-1)) cx.1 cx.2.1 dX1_init_5 (by decide) ?_
  obtain ⟨M1, e2, hf⟩ := lt_elim hf
  refine z_putI cx wz ad_115.1 (by decide) ad_115.2.2 fpX1_9 rfl rfl dX1_init_6 (fun H locs wz => ?_)
  rw [← e2] at wz
  refine lv_aload_n cx.1 cx.2.1 dX1_init_9 rfl (lv_at hl 0 rfl) ?_
  refine lv_bipush (v := 20) cx.1 cx.2.1 dX1_init_10 (by decide) ?_
  refine lv_bipush (v := 6) cx.1 cx.2.1 dX1_init_12 (by decide) ?_
  obtain ⟨M3, e4, hf⟩ := lt_elim hf
  refine z_mul (a := 116) cx wz rfl mlX1_15 ac_I (by decide +kernel) (by decide +kernel) (by decide) (by decide) dX1_init_14 (fun H wz => ?_)
  rw [← e4] at wz
  have wz : Wz G B 136 s M3 H _ := wz
  obtain ⟨M5, e6, hf⟩ := lt_elim hf
  refine z_putF (v := 116) cx wz ad_115.1 (by decide) ad_115.2.2 fpX1_17 hnm (fun _ _ _ h => by cases h; rfl) (by omega) (fun _ => rfl) (fun _ => rfl) dX1_init_18 (fun H locs wz => ?_)
  rw [← e6] at wz
  refine lv_aload_n cx.1 cx.2.1 dX1_init_21 rfl (lv_at hl 0 rfl) ?_
  refine lv_sipush (v := 720) cx.1 cx.2.1 dX1_init_22 (by decide) ?_
  refine z_newI cx wz ac_I (len := 720) (by decide) (by decide) (by decide +kernel) (by decide) (by decide) (by decide) dX1_init_25 (fun H wz => ?_)
  have wz : Wz G B 137 s M5 H _ := wz
  obtain ⟨M7, e8, hf⟩ := lt_elim hf
  refine z_putF (v := 137) cx wz ad_115.1 (by decide) ad_115.2.2 fpX1_20 hnm (fun _ _ _ h => by cases h; rfl) (by omega) (fun _ => rfl) (fun _ => rfl) dX1_init_27 (fun H locs wz => ?_)
  rw [← e8] at wz
  refine lv_aload_n cx.1 cx.2.1 dX1_init_30 rfl (lv_at hl 0 rfl) ?_
  refine lv_bipush (v := 6) cx.1 cx.2.1 dX1_init_31 (by decide) ?_
  refine z_newI cx wz ac_I (len := 6) (by decide) (by decide) (by decide +kernel) (by decide) (by decide) (by decide) dX1_init_33 (fun H wz => ?_)
  have wz : Wz G B 138 s M7 H _ := wz
  obtain ⟨M9, e10, hf⟩ := lt_elim hf
  refine z_putF (v := 138) cx wz ad_115.1 (by decide) ad_115.2.2 fpX1_24 hnm (fun _ _ _ h => by cases h; rfl) (by omega) (fun _ => rfl) (fun _ => rfl) dX1_init_35 (fun H locs wz => ?_)
  rw [← e10] at wz
  refine lv_aload_n cx.1 cx.2.1 dX1_init_38 rfl (lv_at hl 0 rfl) ?_
  refine lv_bipush (v := 6) cx.1 cx.2.1 dX1_init_39 (by decide) ?_
  refine z_newI cx wz ac_I (len := 6) (by decide) (by decide) (by decide +kernel) (by decide) (by decide) (by decide) dX1_init_41 (fun H wz => ?_)
  have wz : Wz G B 139 s M9 H _ := wz
  obtain ⟨M11, e12, hf⟩ := lt_elim hf
  refine z_putF (v := 139) cx wz ad_115.1 (by decide) ad_115.2.2 fpX1_27 hnm (fun _ _ _ h => by cases h; rfl) (by omega) (fun _ => rfl) (fun _ => rfl) dX1_init_43 (fun H locs wz => ?_)
  rw [← e12] at wz
  refine lv_aload_n cx.1 cx.2.1 dX1_init_46 rfl (lv_at hl 0 rfl) ?_
  refine lv_bipush (v := 6) cx.1 cx.2.1 dX1_init_47 (by decide) ?_
  refine z_newI cx wz ac_I (len := 6) (by decide) (by decide) (by decide +kernel) (by decide) (by decide) (by decide) dX1_init_49 (fun H wz => ?_)
  have wz : Wz G B 140 s M11 H _ := wz
  obtain ⟨M13, e14, hf⟩ := lt_elim hf
  refine z_putF (v := 140) cx wz ad_115.1 (by decide) ad_115.2.2 fpX1_30 hnm (fun _ _ _ h => by cases h; rfl) (by omega) (fun _ => rfl) (fun _ => rfl) dX1_init_51 (fun H locs wz => ?_)
  rw [← e14] at wz
  subst hf
  exact z_vret cx wz hr hlk dX1_init_54
def zX0_init (M : Mem) : Mem := M
theorem zX0_init_row {M : Mem} {b : Nat} (h : b < 141 ∨ 141 < b) : (zX0_init M).2.2 b = M.2.2 b := by
  rfl
set_option maxHeartbeats 4000000 in
set_option maxRecDepth 20000 in
theorem zmX0_init (l : Launch) {G : GG} {B : Nat} {M q : Mem} (hf : zX0_init M = q) : Met l yX0_init (wsG yX0_init cX0_init 1 none) (rmZ 2 0 0) (PcZ G B 141 M [.ref (B + 141)]) (QcZ G B 141 q) 0 0 (fr B) := by
  refine mk_MetZ (own := RX0) rfl rfl (Nat.le_of_ble_eq_true rfl) ?_
  intro p e s m below meth c ls cx hr hlk hnm wz hl
  have hl : lv_has ls 1 [(0, .ref (B + 141))] := hl
  unfold zX0_init at hf
  refine lv_aload_n cx.1 cx.2.1 dX0_init_0 rfl (lv_at hl 0 rfl) ?_
  refine z_objInit cx hl.1 olX0_1 oi_obj oc_obj (Nat.le_of_ble_eq_true rfl) (by decide) dX0_init_1 ?_
  subst hf
  exact z_vret cx wz hr hlk dX0_init_4
def zX6_init (u : Nat) (M : Mem) : Mem := lt (sR M u 0 (u + 1)) fun M1 => lt (sR M1 u 3 (u + 2)) fun M3 => lt (sR M3 u 4 (u + 3)) fun M5 => lt (sR M5 u 5 2) fun M7 => lt (zStd u M7) fun M9 => M9
theorem zX6_init_row {u : Nat} {M : Mem} {b : Nat} (h : b < u ∨ u + 3 < b) : (zX6_init u M).2.2 b = M.2.2 b := by
  unfold zX6_init
  simp only [lt]
  rw [zStd_row]
  rw [sR_row (by omega)]
  rw [sR_row (by omega)]
  rw [sR_row (by omega)]
  rw [sR_row (by omega)]
set_option maxHeartbeats 4000000 in
set_option maxRecDepth 20000 in
theorem zmX6_init (l : Launch) {G : GG} {B : Nat} {u : Nat} (hg : u ≠ 0 ∧ sh u = (16, 0) ∧ sh (u + 1) = (0, 40) ∧ sh (u + 2) = (0, 7) ∧ sh (u + 3) = (0, 40)) {M q : Mem} (hf : zX6_init u M = q) : Met l yX6_init (wsG yX6_init cX6_init 2 none) (rmZ 4 3 87) (PcZ G B u M [.ref (B + u), .ref (B + 2)]) (QcZ G B (u + 3) q) 3 87 (fr B) := by
  refine mk_MetZ (own := RX6) rfl rfl (Nat.le_of_ble_eq_true rfl) ?_
  intro p e s m below meth c ls cx hr hlk hnm wz hl
  have hl : lv_has ls 2 [(0, .ref (B + u)), (1, .ref (B + 2))] := hl
  unfold zX6_init at hf
  refine lv_aload_n cx.1 cx.2.1 dX6_init_0 rfl (lv_at hl 0 rfl) ?_
  refine z_objInit cx hl.1 olX6_5 oi_obj oc_obj (Nat.le_of_ble_eq_true rfl) (by decide) dX6_init_1 ?_
  refine lv_aload_n cx.1 cx.2.1 dX6_init_4 rfl (lv_at hl 0 rfl) ?_
  refine lv_bipush (v := 40) cx.1 cx.2.1 dX6_init_5 (by decide) ?_
  refine z_newI cx wz ac_I (len := 40) (by decide) (by decide) hg.2.2.1 (by decide) (by decide) (by decide) dX6_init_7 (fun H wz => ?_)
  have wz : Wz G B (u + 1) s M H _ := wz
  obtain ⟨M1, e2, hf⟩ := lt_elim hf
  refine z_putF (v := (u + 1)) cx wz hg.1 (by omega) (by rw [hg.2.1]) fpX6_11 hnm (fun _ _ _ h => by cases h; rfl) (by omega) (fun _ => rfl) (fun _ => rfl) dX6_init_9 (fun H locs wz => ?_)
  rw [← e2] at wz
  refine lv_aload_n cx.1 cx.2.1 dX6_init_12 rfl (lv_at hl 0 rfl) ?_
  refine lv_bipush (v := 7) cx.1 cx.2.1 dX6_init_13 (by decide) ?_
  refine z_newI cx wz ac_I (len := 7) (by decide) (by decide) hg.2.2.2.1 (by decide) (by decide) (by decide) dX6_init_15 (fun H wz => ?_)
  have wz : Wz G B (u + 2) s M1 H _ := wz
  obtain ⟨M3, e4, hf⟩ := lt_elim hf
  refine z_putF (v := (u + 2)) cx wz hg.1 (by omega) (by rw [hg.2.1]) fpX6_15 hnm (fun _ _ _ h => by cases h; rfl) (by omega) (fun _ => rfl) (fun _ => rfl) dX6_init_17 (fun H locs wz => ?_)
  rw [← e4] at wz
  refine lv_aload_n cx.1 cx.2.1 dX6_init_20 rfl (lv_at hl 0 rfl) ?_
  refine lv_bipush (v := 40) cx.1 cx.2.1 dX6_init_21 (by decide) ?_
  refine z_newI cx wz ac_I (len := 40) (by decide) (by decide) hg.2.2.2.2 (by decide) (by decide) (by decide) dX6_init_23 (fun H wz => ?_)
  have wz : Wz G B (u + 3) s M3 H _ := wz
  obtain ⟨M5, e6, hf⟩ := lt_elim hf
  refine z_putF (v := (u + 3)) cx wz hg.1 (by omega) (by rw [hg.2.1]) fpX6_18 hnm (fun _ _ _ h => by cases h; rfl) (by omega) (fun _ => rfl) (fun _ => rfl) dX6_init_25 (fun H locs wz => ?_)
  rw [← e6] at wz
  refine lv_aload_n cx.1 cx.2.1 dX6_init_28 rfl (lv_at hl 0 rfl) ?_
  refine lv_aload_n cx.1 cx.2.1 dX6_init_29 rfl (lv_at hl 1 rfl) ?_
  obtain ⟨M7, e8, hf⟩ := lt_elim hf
  refine z_putF (v := 2) cx wz hg.1 (by omega) (by rw [hg.2.1]) fpX6_21 hnm (fun _ _ _ h => by cases h; rfl) (by omega) (fun _ => rfl) (fun _ => rfl) dX6_init_30 (fun H locs wz => ?_)
  rw [← e8] at wz
  refine lv_aload_n cx.1 cx.2.1 dX6_init_33 rfl (lv_at hl 0 rfl) ?_
  obtain ⟨M9, e10, hf⟩ := lt_elim hf
  refine z_Vv (rest := []) cx wz (zm_std l hg (by omega) (by rw [e8, e6, e4, e2]; simp [sR, up2]) e10.symm) cvX6_25 rfl hg.1 (by omega) (by rw [hg.2.1]) rfl rfl hl.1 rfl (Nat.le_of_ble_eq_true rfl) ⟨by decide, by decide, by decide, by decide⟩ dX6_init_34 (fun H locs wz => ?_)
  subst hf
  exact z_vret cx wz hr hlk dX6_init_37
