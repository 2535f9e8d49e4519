/-! walks, by program -/
theorem dX3_nextAhead_0 : decode cX3_nextAhead 0 = .ok (.iload_n 1, 1) := by decide +kernel
theorem dX3_nextAhead_1 : decode cX3_nextAhead 1 = .ok (.iconst 1, 1) := by decide +kernel
theorem dX3_nextAhead_2 : decode cX3_nextAhead 2 = .ok (.isub, 1) := by decide +kernel
theorem dX3_nextAhead_3 : decode cX3_nextAhead 3 = .ok (.istore_n 2, 1) := by decide +kernel
theorem dX3_nextAhead_4 : decode cX3_nextAhead 4 = .ok (.iload_n 2, 1) := by decide +kernel
theorem dX3_nextAhead_5 : decode cX3_nextAhead 5 = .ok (.ifCond .lt 20, 3) := by decide +kernel
theorem dX3_nextAhead_8 : decode cX3_nextAhead 8 = .ok (.aload_n 0, 1) := by decide +kernel
theorem dX3_nextAhead_9 : decode cX3_nextAhead 9 = .ok (.getfield 15, 3) := by decide +kernel
theorem dX3_nextAhead_12 : decode cX3_nextAhead 12 = .ok (.iload_n 2, 1) := by decide +kernel
theorem dX3_nextAhead_13 : decode cX3_nextAhead 13 = .ok (.baload, 1) := by decide +kernel
theorem dX3_nextAhead_14 : decode cX3_nextAhead 14 = .ok (.ifCond .eq 5, 3) := by decide +kernel
theorem dX3_nextAhead_17 : decode cX3_nextAhead 17 = .ok (.iload_n 2, 1) := by decide +kernel
theorem dX3_nextAhead_18 : decode cX3_nextAhead 18 = .ok (.ireturn, 1) := by decide +kernel
theorem dX3_nextAhead_19 : decode cX3_nextAhead 19 = .ok (.iinc 2 (-1), 3) := by decide +kernel
theorem dX3_nextAhead_22 : decode cX3_nextAhead 22 = .ok (.goto (-18), 3) := by decide +kernel
theorem dX3_nextAhead_25 : decode cX3_nextAhead 25 = .ok (.iconst (-1), 1) := by decide +kernel
theorem dX3_nextAhead_26 : decode cX3_nextAhead 26 = .ok (.ireturn, 1) := by decide +kernel
theorem dX3_nextBehind_0 : decode cX3_nextBehind 0 = .ok (.iload_n 1, 1) := by decide +kernel
theorem dX3_nextBehind_1 : decode cX3_nextBehind 1 = .ok (.iconst 1, 1) := by decide +kernel
theorem dX3_nextBehind_2 : decode cX3_nextBehind 2 = .ok (.iadd, 1) := by decide +kernel
theorem dX3_nextBehind_3 : decode cX3_nextBehind 3 = .ok (.istore_n 2, 1) := by decide +kernel
theorem dX3_nextBehind_4 : decode cX3_nextBehind 4 = .ok (.iload_n 2, 1) := by decide +kernel
theorem dX3_nextBehind_5 : decode cX3_nextBehind 5 = .ok (.aload_n 0, 1) := by decide +kernel
theorem dX3_nextBehind_6 : decode cX3_nextBehind 6 = .ok (.getfield 37, 3) := by decide +kernel
theorem dX3_nextBehind_9 : decode cX3_nextBehind 9 = .ok (.if_icmp .ge 20, 3) := by decide +kernel
theorem dX3_nextBehind_12 : decode cX3_nextBehind 12 = .ok (.aload_n 0, 1) := by decide +kernel
theorem dX3_nextBehind_13 : decode cX3_nextBehind 13 = .ok (.getfield 15, 3) := by decide +kernel
theorem dX3_nextBehind_16 : decode cX3_nextBehind 16 = .ok (.iload_n 2, 1) := by decide +kernel
theorem dX3_nextBehind_17 : decode cX3_nextBehind 17 = .ok (.baload, 1) := by decide +kernel
theorem dX3_nextBehind_18 : decode cX3_nextBehind 18 = .ok (.ifCond .eq 5, 3) := by decide +kernel
theorem dX3_nextBehind_21 : decode cX3_nextBehind 21 = .ok (.iload_n 2, 1) := by decide +kernel
theorem dX3_nextBehind_22 : decode cX3_nextBehind 22 = .ok (.ireturn, 1) := by decide +kernel
theorem dX3_nextBehind_23 : decode cX3_nextBehind 23 = .ok (.iinc 2 1, 3) := by decide +kernel
theorem dX3_nextBehind_26 : decode cX3_nextBehind 26 = .ok (.goto (-22), 3) := by decide +kernel
theorem dX3_nextBehind_29 : decode cX3_nextBehind 29 = .ok (.iconst (-1), 1) := by decide +kernel
theorem dX3_nextBehind_30 : decode cX3_nextBehind 30 = .ok (.ireturn, 1) := by decide +kernel
theorem dX3_weigh_0 : decode cX3_weigh 0 = .ok (.iconst 0, 1) := by decide +kernel
theorem dX3_weigh_1 : decode cX3_weigh 1 = .ok (.istore 4, 2) := by decide +kernel
theorem dX3_weigh_3 : decode cX3_weigh 3 = .ok (.iload 4, 2) := by decide +kernel
theorem dX3_weigh_5 : decode cX3_weigh 5 = .ok (.aload_n 0, 1) := by decide +kernel
theorem dX3_weigh_6 : decode cX3_weigh 6 = .ok (.getfield 37, 3) := by decide +kernel
theorem dX3_weigh_9 : decode cX3_weigh 9 = .ok (.if_icmp .ge 172, 3) := by decide +kernel
theorem dX3_weigh_12 : decode cX3_weigh 12 = .ok (.aload_n 0, 1) := by decide +kernel
theorem dX3_weigh_13 : decode cX3_weigh 13 = .ok (.getfield 15, 3) := by decide +kernel
theorem dX3_weigh_16 : decode cX3_weigh 16 = .ok (.iload 4, 2) := by decide +kernel
theorem dX3_weigh_18 : decode cX3_weigh 18 = .ok (.baload, 1) := by decide +kernel
theorem dX3_weigh_19 : decode cX3_weigh 19 = .ok (.ifCond .eq 156, 3) := by decide +kernel
theorem dX3_weigh_22 : decode cX3_weigh 22 = .ok (.aload_n 1, 1) := by decide +kernel
theorem dX3_weigh_23 : decode cX3_weigh 23 = .ok (.getfield 77, 3) := by decide +kernel
theorem dX3_weigh_26 : decode cX3_weigh 26 = .ok (.iload 4, 2) := by decide +kernel
theorem dX3_weigh_28 : decode cX3_weigh 28 = .ok (.iaload, 1) := by decide +kernel
theorem dX3_weigh_29 : decode cX3_weigh 29 = .ok (.istore 5, 2) := by decide +kernel
theorem dX3_weigh_31 : decode cX3_weigh 31 = .ok (.aload_n 0, 1) := by decide +kernel
theorem dX3_weigh_32 : decode cX3_weigh 32 = .ok (.iload 4, 2) := by decide +kernel
theorem dX3_weigh_34 : decode cX3_weigh 34 = .ok (.invokevirtual 69, 3) := by decide +kernel
theorem dX3_weigh_37 : decode cX3_weigh 37 = .ok (.istore 6, 2) := by decide +kernel
theorem dX3_weigh_39 : decode cX3_weigh 39 = .ok (.aload_n 0, 1) := by decide +kernel
theorem dX3_weigh_40 : decode cX3_weigh 40 = .ok (.iload 4, 2) := by decide +kernel
theorem dX3_weigh_42 : decode cX3_weigh 42 = .ok (.invokevirtual 80, 3) := by decide +kernel
theorem dX3_weigh_45 : decode cX3_weigh 45 = .ok (.istore 7, 2) := by decide +kernel
theorem dX3_weigh_47 : decode cX3_weigh 47 = .ok (.aload_n 2, 1) := by decide +kernel
theorem dX3_weigh_48 : decode cX3_weigh 48 = .ok (.getfield 83, 3) := by decide +kernel
theorem dX3_weigh_51 : decode cX3_weigh 51 = .ok (.iconst 0, 1) := by decide +kernel
theorem dX3_weigh_52 : decode cX3_weigh 52 = .ok (.aload_n 1, 1) := by decide +kernel
theorem dX3_weigh_53 : decode cX3_weigh 53 = .ok (.getfield 86, 3) := by decide +kernel
theorem dX3_weigh_56 : decode cX3_weigh 56 = .ok (.iload 5, 2) := by decide +kernel
theorem dX3_weigh_58 : decode cX3_weigh 58 = .ok (.iaload, 1) := by decide +kernel
theorem dX3_weigh_59 : decode cX3_weigh 59 = .ok (.iastore, 1) := by decide +kernel
theorem dX3_weigh_60 : decode cX3_weigh 60 = .ok (.aload_n 2, 1) := by decide +kernel
theorem dX3_weigh_61 : decode cX3_weigh 61 = .ok (.getfield 83, 3) := by decide +kernel
theorem dX3_weigh_64 : decode cX3_weigh 64 = .ok (.iconst 1, 1) := by decide +kernel
theorem dX3_weigh_65 : decode cX3_weigh 65 = .ok (.aload_n 1, 1) := by decide +kernel
theorem dX3_weigh_66 : decode cX3_weigh 66 = .ok (.getfield 89, 3) := by decide +kernel
theorem dX3_weigh_69 : decode cX3_weigh 69 = .ok (.iload 5, 2) := by decide +kernel
theorem dX3_weigh_71 : decode cX3_weigh 71 = .ok (.iaload, 1) := by decide +kernel
theorem dX3_weigh_72 : decode cX3_weigh 72 = .ok (.iastore, 1) := by decide +kernel
theorem dX3_weigh_73 : decode cX3_weigh 73 = .ok (.aload_n 2, 1) := by decide +kernel
theorem dX3_weigh_74 : decode cX3_weigh 74 = .ok (.getfield 83, 3) := by decide +kernel
theorem dX3_weigh_77 : decode cX3_weigh 77 = .ok (.iconst 2, 1) := by decide +kernel
theorem dX3_weigh_78 : decode cX3_weigh 78 = .ok (.iload_n 3, 1) := by decide +kernel
theorem dX3_weigh_79 : decode cX3_weigh 79 = .ok (.iastore, 1) := by decide +kernel
theorem dX3_weigh_80 : decode cX3_weigh 80 = .ok (.aload_n 2, 1) := by decide +kernel
theorem dX3_weigh_81 : decode cX3_weigh 81 = .ok (.getfield 83, 3) := by decide +kernel
theorem dX3_weigh_84 : decode cX3_weigh 84 = .ok (.iconst 3, 1) := by decide +kernel
theorem dX3_weigh_85 : decode cX3_weigh 85 = .ok (.iload 4, 2) := by decide +kernel
theorem dX3_weigh_87 : decode cX3_weigh 87 = .ok (.iastore, 1) := by decide +kernel
theorem dX3_weigh_88 : decode cX3_weigh 88 = .ok (.aload_n 2, 1) := by decide +kernel
theorem dX3_weigh_89 : decode cX3_weigh 89 = .ok (.getfield 83, 3) := by decide +kernel
theorem dX3_weigh_92 : decode cX3_weigh 92 = .ok (.iconst 4, 1) := by decide +kernel
theorem dX3_weigh_93 : decode cX3_weigh 93 = .ok (.iload 6, 2) := by decide +kernel
theorem dX3_weigh_95 : decode cX3_weigh 95 = .ok (.ifCond .lt 21, 3) := by decide +kernel
theorem dX3_weigh_98 : decode cX3_weigh 98 = .ok (.aload_n 0, 1) := by decide +kernel
theorem dX3_weigh_99 : decode cX3_weigh 99 = .ok (.getfield 9, 3) := by decide +kernel
theorem dX3_weigh_102 : decode cX3_weigh 102 = .ok (.iload 6, 2) := by decide +kernel
theorem dX3_weigh_104 : decode cX3_weigh 104 = .ok (.iaload, 1) := by decide +kernel
theorem dX3_weigh_105 : decode cX3_weigh 105 = .ok (.aload_n 0, 1) := by decide +kernel
theorem dX3_weigh_106 : decode cX3_weigh 106 = .ok (.getfield 9, 3) := by decide +kernel
theorem dX3_weigh_109 : decode cX3_weigh 109 = .ok (.iload 4, 2) := by decide +kernel
theorem dX3_weigh_111 : decode cX3_weigh 111 = .ok (.iaload, 1) := by decide +kernel
theorem dX3_weigh_112 : decode cX3_weigh 112 = .ok (.isub, 1) := by decide +kernel
theorem dX3_weigh_113 : decode cX3_weigh 113 = .ok (.goto 5, 3) := by decide +kernel
theorem dX3_weigh_116 : decode cX3_weigh 116 = .ok (.bipush 99, 2) := by decide +kernel
theorem dX3_weigh_118 : decode cX3_weigh 118 = .ok (.iastore, 1) := by decide +kernel
theorem dX3_weigh_119 : decode cX3_weigh 119 = .ok (.aload_n 2, 1) := by decide +kernel
theorem dX3_weigh_120 : decode cX3_weigh 120 = .ok (.getfield 83, 3) := by decide +kernel
theorem dX3_weigh_123 : decode cX3_weigh 123 = .ok (.iconst 5, 1) := by decide +kernel
theorem dX3_weigh_124 : decode cX3_weigh 124 = .ok (.iload 7, 2) := by decide +kernel
theorem dX3_weigh_126 : decode cX3_weigh 126 = .ok (.ifCond .lt 21, 3) := by decide +kernel
theorem dX3_weigh_129 : decode cX3_weigh 129 = .ok (.aload_n 0, 1) := by decide +kernel
theorem dX3_weigh_130 : decode cX3_weigh 130 = .ok (.getfield 9, 3) := by decide +kernel
theorem dX3_weigh_133 : decode cX3_weigh 133 = .ok (.iload 4, 2) := by decide +kernel
theorem dX3_weigh_135 : decode cX3_weigh 135 = .ok (.iaload, 1) := by decide +kernel
theorem dX3_weigh_136 : decode cX3_weigh 136 = .ok (.aload_n 0, 1) := by decide +kernel
theorem dX3_weigh_137 : decode cX3_weigh 137 = .ok (.getfield 9, 3) := by decide +kernel
theorem dX3_weigh_140 : decode cX3_weigh 140 = .ok (.iload 7, 2) := by decide +kernel
theorem dX3_weigh_142 : decode cX3_weigh 142 = .ok (.iaload, 1) := by decide +kernel
theorem dX3_weigh_143 : decode cX3_weigh 143 = .ok (.isub, 1) := by decide +kernel
theorem dX3_weigh_144 : decode cX3_weigh 144 = .ok (.goto 5, 3) := by decide +kernel
theorem dX3_weigh_147 : decode cX3_weigh 147 = .ok (.bipush 99, 2) := by decide +kernel
theorem dX3_weigh_149 : decode cX3_weigh 149 = .ok (.iastore, 1) := by decide +kernel
theorem dX3_weigh_150 : decode cX3_weigh 150 = .ok (.aload_n 2, 1) := by decide +kernel
theorem dX3_weigh_151 : decode cX3_weigh 151 = .ok (.getfield 83, 3) := by decide +kernel
theorem dX3_weigh_154 : decode cX3_weigh 154 = .ok (.bipush 6, 2) := by decide +kernel
theorem dX3_weigh_156 : decode cX3_weigh 156 = .ok (.aload_n 1, 1) := by decide +kernel
theorem dX3_weigh_157 : decode cX3_weigh 157 = .ok (.getfield 92, 3) := by decide +kernel
theorem dX3_weigh_160 : decode cX3_weigh 160 = .ok (.bipush 7, 2) := by decide +kernel
theorem dX3_weigh_162 : decode cX3_weigh 162 = .ok (.irem, 1) := by decide +kernel
theorem dX3_weigh_163 : decode cX3_weigh 163 = .ok (.iastore, 1) := by decide +kernel
theorem dX3_weigh_164 : decode cX3_weigh 164 = .ok (.aload_n 0, 1) := by decide +kernel
theorem dX3_weigh_165 : decode cX3_weigh 165 = .ok (.getfield 19, 3) := by decide +kernel
theorem dX3_weigh_168 : decode cX3_weigh 168 = .ok (.iload 4, 2) := by decide +kernel
theorem dX3_weigh_170 : decode cX3_weigh 170 = .ok (.aload_n 2, 1) := by decide +kernel
theorem dX3_weigh_171 : decode cX3_weigh 171 = .ok (.invokevirtual 95, 3) := by decide +kernel
theorem dX3_weigh_174 : decode cX3_weigh 174 = .ok (.iastore, 1) := by decide +kernel
theorem dX3_weigh_175 : decode cX3_weigh 175 = .ok (.iinc 4 1, 3) := by decide +kernel
theorem dX3_weigh_178 : decode cX3_weigh 178 = .ok (.goto (-175), 3) := by decide +kernel
theorem dX3_weigh_181 : decode cX3_weigh 181 = .ok (.return_, 1) := by decide +kernel
theorem dX3_begin_0 : decode cX3_begin 0 = .ok (.aload_n 0, 1) := by decide +kernel
theorem dX3_begin_1 : decode cX3_begin 1 = .ok (.aload_n 1, 1) := by decide +kernel
theorem dX3_begin_2 : decode cX3_begin 2 = .ok (.getfield 31, 3) := by decide +kernel
theorem dX3_begin_5 : decode cX3_begin 5 = .ok (.putfield 37, 3) := by decide +kernel
theorem dX3_begin_8 : decode cX3_begin 8 = .ok (.aload_n 0, 1) := by decide +kernel
theorem dX3_begin_9 : decode cX3_begin 9 = .ok (.aload_n 0, 1) := by decide +kernel
theorem dX3_begin_10 : decode cX3_begin 10 = .ok (.getfield 37, 3) := by decide +kernel
theorem dX3_begin_13 : decode cX3_begin 13 = .ok (.putfield 40, 3) := by decide +kernel
theorem dX3_begin_16 : decode cX3_begin 16 = .ok (.aload_n 0, 1) := by decide +kernel
theorem dX3_begin_17 : decode cX3_begin 17 = .ok (.iconst 0, 1) := by decide +kernel
theorem dX3_begin_18 : decode cX3_begin 18 = .ok (.putfield 43, 3) := by decide +kernel
theorem dX3_begin_21 : decode cX3_begin 21 = .ok (.iconst 0, 1) := by decide +kernel
theorem dX3_begin_22 : decode cX3_begin 22 = .ok (.istore_n 3, 1) := by decide +kernel
theorem dX3_begin_23 : decode cX3_begin 23 = .ok (.iload_n 3, 1) := by decide +kernel
theorem dX3_begin_24 : decode cX3_begin 24 = .ok (.aload_n 0, 1) := by decide +kernel
theorem dX3_begin_25 : decode cX3_begin 25 = .ok (.getfield 37, 3) := by decide +kernel
theorem dX3_begin_28 : decode cX3_begin 28 = .ok (.if_icmp .ge 29, 3) := by decide +kernel
theorem dX3_begin_31 : decode cX3_begin 31 = .ok (.aload_n 0, 1) := by decide +kernel
theorem dX3_begin_32 : decode cX3_begin 32 = .ok (.getfield 9, 3) := by decide +kernel
theorem dX3_begin_35 : decode cX3_begin 35 = .ok (.iload_n 3, 1) := by decide +kernel
theorem dX3_begin_36 : decode cX3_begin 36 = .ok (.aload_n 1, 1) := by decide +kernel
theorem dX3_begin_37 : decode cX3_begin 37 = .ok (.getfield 46, 3) := by decide +kernel
theorem dX3_begin_40 : decode cX3_begin 40 = .ok (.ineg, 1) := by decide +kernel
theorem dX3_begin_41 : decode cX3_begin 41 = .ok (.iload_n 3, 1) := by decide +kernel
theorem dX3_begin_42 : decode cX3_begin 42 = .ok (.imul, 1) := by decide +kernel
theorem dX3_begin_43 : decode cX3_begin 43 = .ok (.iastore, 1) := by decide +kernel
theorem dX3_begin_44 : decode cX3_begin 44 = .ok (.aload_n 0, 1) := by decide +kernel
theorem dX3_begin_45 : decode cX3_begin 45 = .ok (.getfield 15, 3) := by decide +kernel
theorem dX3_begin_48 : decode cX3_begin 48 = .ok (.iload_n 3, 1) := by decide +kernel
theorem dX3_begin_49 : decode cX3_begin 49 = .ok (.iconst 1, 1) := by decide +kernel
theorem dX3_begin_50 : decode cX3_begin 50 = .ok (.bastore, 1) := by decide +kernel
theorem dX3_begin_51 : decode cX3_begin 51 = .ok (.iinc 3 1, 3) := by decide +kernel
theorem dX3_begin_54 : decode cX3_begin 54 = .ok (.goto (-31), 3) := by decide +kernel
theorem dX3_begin_57 : decode cX3_begin 57 = .ok (.aload_n 2, 1) := by decide +kernel
theorem dX3_begin_58 : decode cX3_begin 58 = .ok (.getfield 49, 3) := by decide +kernel
theorem dX3_begin_61 : decode cX3_begin 61 = .ok (.ifCond .ne 10, 3) := by decide +kernel
theorem dX3_begin_64 : decode cX3_begin 64 = .ok (.aload_n 0, 1) := by decide +kernel
theorem dX3_begin_65 : decode cX3_begin 65 = .ok (.aload_n 1, 1) := by decide +kernel
theorem dX3_begin_66 : decode cX3_begin 66 = .ok (.aload_n 2, 1) := by decide +kernel
theorem dX3_begin_67 : decode cX3_begin 67 = .ok (.iconst 0, 1) := by decide +kernel
theorem dX3_begin_68 : decode cX3_begin 68 = .ok (.invokevirtual 55, 3) := by decide +kernel
theorem dX3_begin_71 : decode cX3_begin 71 = .ok (.return_, 1) := by decide +kernel
theorem dX3_touch_0 : decode cX3_touch 0 = .ok (.aload_n 0, 1) := by decide +kernel
theorem dX3_touch_1 : decode cX3_touch 1 = .ok (.getfield 15, 3) := by decide +kernel
theorem dX3_touch_4 : decode cX3_touch 4 = .ok (.iload_n 2, 1) := by decide +kernel
theorem dX3_touch_5 : decode cX3_touch 5 = .ok (.iconst 0, 1) := by decide +kernel
theorem dX3_touch_6 : decode cX3_touch 6 = .ok (.bastore, 1) := by decide +kernel
theorem dX3_touch_7 : decode cX3_touch 7 = .ok (.aload_n 0, 1) := by decide +kernel
theorem dX3_touch_8 : decode cX3_touch 8 = .ok (.getfield 15, 3) := by decide +kernel
theorem dX3_touch_11 : decode cX3_touch 11 = .ok (.iload_n 3, 1) := by decide +kernel
theorem dX3_touch_12 : decode cX3_touch 12 = .ok (.iconst 0, 1) := by decide +kernel
theorem dX3_touch_13 : decode cX3_touch 13 = .ok (.bastore, 1) := by decide +kernel
theorem dX3_touch_14 : decode cX3_touch 14 = .ok (.aload_n 0, 1) := by decide +kernel
theorem dX3_touch_15 : decode cX3_touch 15 = .ok (.dup, 1) := by decide +kernel
theorem dX3_touch_16 : decode cX3_touch 16 = .ok (.getfield 40, 3) := by decide +kernel
theorem dX3_touch_19 : decode cX3_touch 19 = .ok (.iconst 2, 1) := by decide +kernel
theorem dX3_touch_20 : decode cX3_touch 20 = .ok (.isub, 1) := by decide +kernel
theorem dX3_touch_21 : decode cX3_touch 21 = .ok (.putfield 40, 3) := by decide +kernel
theorem dX3_touch_24 : decode cX3_touch 24 = .ok (.aload_n 0, 1) := by decide +kernel
theorem dX3_touch_25 : decode cX3_touch 25 = .ok (.getfield 43, 3) := by decide +kernel
theorem dX3_touch_28 : decode cX3_touch 28 = .ok (.iconst 3, 1) := by decide +kernel
theorem dX3_touch_29 : decode cX3_touch 29 = .ok (.if_icmp .ge 54, 3) := by decide +kernel
theorem dX3_touch_32 : decode cX3_touch 32 = .ok (.aload_n 0, 1) := by decide +kernel
theorem dX3_touch_33 : decode cX3_touch 33 = .ok (.getfield 22, 3) := by decide +kernel
theorem dX3_touch_36 : decode cX3_touch 36 = .ok (.aload_n 0, 1) := by decide +kernel
theorem dX3_touch_37 : decode cX3_touch 37 = .ok (.getfield 43, 3) := by decide +kernel
theorem dX3_touch_40 : decode cX3_touch 40 = .ok (.iload 4, 2) := by decide +kernel
theorem dX3_touch_42 : decode cX3_touch 42 = .ok (.iastore, 1) := by decide +kernel
theorem dX3_touch_43 : decode cX3_touch 43 = .ok (.aload_n 0, 1) := by decide +kernel
theorem dX3_touch_44 : decode cX3_touch 44 = .ok (.getfield 25, 3) := by decide +kernel
theorem dX3_touch_47 : decode cX3_touch 47 = .ok (.aload_n 0, 1) := by decide +kernel
theorem dX3_touch_48 : decode cX3_touch 48 = .ok (.getfield 43, 3) := by decide +kernel
theorem dX3_touch_51 : decode cX3_touch 51 = .ok (.aload_n 1, 1) := by decide +kernel
theorem dX3_touch_52 : decode cX3_touch 52 = .ok (.getfield 77, 3) := by decide +kernel
theorem dX3_touch_55 : decode cX3_touch 55 = .ok (.iload_n 2, 1) := by decide +kernel
theorem dX3_touch_56 : decode cX3_touch 56 = .ok (.iaload, 1) := by decide +kernel
theorem dX3_touch_57 : decode cX3_touch 57 = .ok (.iastore, 1) := by decide +kernel
theorem dX3_touch_58 : decode cX3_touch 58 = .ok (.aload_n 0, 1) := by decide +kernel
theorem dX3_touch_59 : decode cX3_touch 59 = .ok (.getfield 28, 3) := by decide +kernel
theorem dX3_touch_62 : decode cX3_touch 62 = .ok (.aload_n 0, 1) := by decide +kernel
theorem dX3_touch_63 : decode cX3_touch 63 = .ok (.getfield 43, 3) := by decide +kernel
theorem dX3_touch_66 : decode cX3_touch 66 = .ok (.aload_n 1, 1) := by decide +kernel
theorem dX3_touch_67 : decode cX3_touch 67 = .ok (.getfield 77, 3) := by decide +kernel
theorem dX3_touch_70 : decode cX3_touch 70 = .ok (.iload_n 3, 1) := by decide +kernel
theorem dX3_touch_71 : decode cX3_touch 71 = .ok (.iaload, 1) := by decide +kernel
theorem dX3_touch_72 : decode cX3_touch 72 = .ok (.iastore, 1) := by decide +kernel
theorem dX3_touch_73 : decode cX3_touch 73 = .ok (.aload_n 0, 1) := by decide +kernel
theorem dX3_touch_74 : decode cX3_touch 74 = .ok (.dup, 1) := by decide +kernel
theorem dX3_touch_75 : decode cX3_touch 75 = .ok (.getfield 43, 3) := by decide +kernel
theorem dX3_touch_78 : decode cX3_touch 78 = .ok (.iconst 1, 1) := by decide +kernel
theorem dX3_touch_79 : decode cX3_touch 79 = .ok (.iadd, 1) := by decide +kernel
theorem dX3_touch_80 : decode cX3_touch 80 = .ok (.putfield 43, 3) := by decide +kernel
theorem dX3_touch_83 : decode cX3_touch 83 = .ok (.return_, 1) := by decide +kernel
theorem dX3_pull_0 : decode cX3_pull 0 = .ok (.aload_n 2, 1) := by decide +kernel
theorem dX3_pull_1 : decode cX3_pull 1 = .ok (.getfield 49, 3) := by decide +kernel
theorem dX3_pull_4 : decode cX3_pull 4 = .ok (.ifCond .eq 10, 3) := by decide +kernel
theorem dX3_pull_7 : decode cX3_pull 7 = .ok (.aload_n 0, 1) := by decide +kernel
theorem dX3_pull_8 : decode cX3_pull 8 = .ok (.aload_n 1, 1) := by decide +kernel
theorem dX3_pull_9 : decode cX3_pull 9 = .ok (.aload_n 2, 1) := by decide +kernel
theorem dX3_pull_10 : decode cX3_pull 10 = .ok (.iload_n 3, 1) := by decide +kernel
theorem dX3_pull_11 : decode cX3_pull 11 = .ok (.invokevirtual 55, 3) := by decide +kernel
theorem dX3_pull_14 : decode cX3_pull 14 = .ok (.iconst 0, 1) := by decide +kernel
theorem dX3_pull_15 : decode cX3_pull 15 = .ok (.istore 4, 2) := by decide +kernel
theorem dX3_pull_17 : decode cX3_pull 17 = .ok (.iload 4, 2) := by decide +kernel
theorem dX3_pull_19 : decode cX3_pull 19 = .ok (.aload_n 0, 1) := by decide +kernel
theorem dX3_pull_20 : decode cX3_pull 20 = .ok (.getfield 37, 3) := by decide +kernel
theorem dX3_pull_23 : decode cX3_pull 23 = .ok (.if_icmp .ge 40, 3) := by decide +kernel
theorem dX3_pull_26 : decode cX3_pull 26 = .ok (.aload_n 0, 1) := by decide +kernel
theorem dX3_pull_27 : decode cX3_pull 27 = .ok (.getfield 9, 3) := by decide +kernel
theorem dX3_pull_30 : decode cX3_pull 30 = .ok (.iload 4, 2) := by decide +kernel
theorem dX3_pull_32 : decode cX3_pull 32 = .ok (.dup2, 1) := by decide +kernel
theorem dX3_pull_33 : decode cX3_pull 33 = .ok (.iaload, 1) := by decide +kernel
theorem dX3_pull_34 : decode cX3_pull 34 = .ok (.aload_n 0, 1) := by decide +kernel
theorem dX3_pull_35 : decode cX3_pull 35 = .ok (.getfield 15, 3) := by decide +kernel
theorem dX3_pull_38 : decode cX3_pull 38 = .ok (.iload 4, 2) := by decide +kernel
theorem dX3_pull_40 : decode cX3_pull 40 = .ok (.baload, 1) := by decide +kernel
theorem dX3_pull_41 : decode cX3_pull 41 = .ok (.ifCond .eq 13, 3) := by decide +kernel
theorem dX3_pull_44 : decode cX3_pull 44 = .ok (.aload_n 0, 1) := by decide +kernel
theorem dX3_pull_45 : decode cX3_pull 45 = .ok (.getfield 19, 3) := by decide +kernel
theorem dX3_pull_48 : decode cX3_pull 48 = .ok (.iload 4, 2) := by decide +kernel
theorem dX3_pull_50 : decode cX3_pull 50 = .ok (.iaload, 1) := by decide +kernel
theorem dX3_pull_51 : decode cX3_pull 51 = .ok (.goto 4, 3) := by decide +kernel
theorem dX3_pull_54 : decode cX3_pull 54 = .ok (.iconst 0, 1) := by decide +kernel
theorem dX3_pull_55 : decode cX3_pull 55 = .ok (.iadd, 1) := by decide +kernel
theorem dX3_pull_56 : decode cX3_pull 56 = .ok (.iastore, 1) := by decide +kernel
theorem dX3_pull_57 : decode cX3_pull 57 = .ok (.iinc 4 1, 3) := by decide +kernel
theorem dX3_pull_60 : decode cX3_pull 60 = .ok (.goto (-43), 3) := by decide +kernel
theorem dX3_pull_63 : decode cX3_pull 63 = .ok (.iconst 1, 1) := by decide +kernel
theorem dX3_pull_64 : decode cX3_pull 64 = .ok (.istore 4, 2) := by decide +kernel
theorem dX3_pull_66 : decode cX3_pull 66 = .ok (.iload 4, 2) := by decide +kernel
theorem dX3_pull_68 : decode cX3_pull 68 = .ok (.aload_n 0, 1) := by decide +kernel
theorem dX3_pull_69 : decode cX3_pull 69 = .ok (.getfield 37, 3) := by decide +kernel
theorem dX3_pull_72 : decode cX3_pull 72 = .ok (.if_icmp .ge 65, 3) := by decide +kernel
theorem dX3_pull_75 : decode cX3_pull 75 = .ok (.aload_n 0, 1) := by decide +kernel
theorem dX3_pull_76 : decode cX3_pull 76 = .ok (.getfield 15, 3) := by decide +kernel
theorem dX3_pull_79 : decode cX3_pull 79 = .ok (.iload 4, 2) := by decide +kernel
theorem dX3_pull_81 : decode cX3_pull 81 = .ok (.baload, 1) := by decide +kernel
theorem dX3_pull_82 : decode cX3_pull 82 = .ok (.ifCond .eq 12, 3) := by decide +kernel
theorem dX3_pull_85 : decode cX3_pull 85 = .ok (.aload_n 0, 1) := by decide +kernel
theorem dX3_pull_86 : decode cX3_pull 86 = .ok (.iload 4, 2) := by decide +kernel
theorem dX3_pull_88 : decode cX3_pull 88 = .ok (.invokevirtual 69, 3) := by decide +kernel
theorem dX3_pull_91 : decode cX3_pull 91 = .ok (.goto 4, 3) := by decide +kernel
theorem dX3_pull_94 : decode cX3_pull 94 = .ok (.iconst (-1), 1) := by decide +kernel
theorem dX3_pull_95 : decode cX3_pull 95 = .ok (.istore 5, 2) := by decide +kernel
theorem dX3_pull_97 : decode cX3_pull 97 = .ok (.iload 5, 2) := by decide +kernel
theorem dX3_pull_99 : decode cX3_pull 99 = .ok (.ifCond .lt 32, 3) := by decide +kernel
theorem dX3_pull_102 : decode cX3_pull 102 = .ok (.aload_n 0, 1) := by decide +kernel
theorem dX3_pull_103 : decode cX3_pull 103 = .ok (.getfield 9, 3) := by decide +kernel
theorem dX3_pull_106 : decode cX3_pull 106 = .ok (.iload 4, 2) := by decide +kernel
theorem dX3_pull_108 : decode cX3_pull 108 = .ok (.iaload, 1) := by decide +kernel
theorem dX3_pull_109 : decode cX3_pull 109 = .ok (.aload_n 0, 1) := by decide +kernel
theorem dX3_pull_110 : decode cX3_pull 110 = .ok (.getfield 9, 3) := by decide +kernel
theorem dX3_pull_113 : decode cX3_pull 113 = .ok (.iload 5, 2) := by decide +kernel
theorem dX3_pull_115 : decode cX3_pull 115 = .ok (.iaload, 1) := by decide +kernel
theorem dX3_pull_116 : decode cX3_pull 116 = .ok (.if_icmp .lt 15, 3) := by decide +kernel
theorem dX3_pull_119 : decode cX3_pull 119 = .ok (.aload_n 0, 1) := by decide +kernel
theorem dX3_pull_120 : decode cX3_pull 120 = .ok (.aload_n 1, 1) := by decide +kernel
theorem dX3_pull_121 : decode cX3_pull 121 = .ok (.iload 4, 2) := by decide +kernel
theorem dX3_pull_123 : decode cX3_pull 123 = .ok (.iload 5, 2) := by decide +kernel
theorem dX3_pull_125 : decode cX3_pull 125 = .ok (.iload_n 3, 1) := by decide +kernel
theorem dX3_pull_126 : decode cX3_pull 126 = .ok (.iconst 1, 1) := by decide +kernel
theorem dX3_pull_127 : decode cX3_pull 127 = .ok (.iadd, 1) := by decide +kernel
theorem dX3_pull_128 : decode cX3_pull 128 = .ok (.invokevirtual 73, 3) := by decide +kernel
theorem dX3_pull_131 : decode cX3_pull 131 = .ok (.iinc 4 1, 3) := by decide +kernel
theorem dX3_pull_134 : decode cX3_pull 134 = .ok (.goto (-68), 3) := by decide +kernel
theorem dX3_pull_137 : decode cX3_pull 137 = .ok (.return_, 1) := by decide +kernel
theorem dX3_run_0 : decode cX3_run 0 = .ok (.aload_n 0, 1) := by decide +kernel
theorem dX3_run_1 : decode cX3_run 1 = .ok (.aload_n 1, 1) := by decide +kernel
theorem dX3_run_2 : decode cX3_run 2 = .ok (.aload_n 2, 1) := by decide +kernel
theorem dX3_run_3 : decode cX3_run 3 = .ok (.invokevirtual 59, 3) := by decide +kernel
theorem dX3_run_6 : decode cX3_run 6 = .ok (.iconst 0, 1) := by decide +kernel
theorem dX3_run_7 : decode cX3_run 7 = .ok (.istore_n 3, 1) := by decide +kernel
theorem dX3_run_8 : decode cX3_run 8 = .ok (.iload_n 3, 1) := by decide +kernel
theorem dX3_run_9 : decode cX3_run 9 = .ok (.aload_n 1, 1) := by decide +kernel
theorem dX3_run_10 : decode cX3_run 10 = .ok (.getfield 63, 3) := by decide +kernel
theorem dX3_run_13 : decode cX3_run 13 = .ok (.if_icmp .ge 24, 3) := by decide +kernel
theorem dX3_run_16 : decode cX3_run 16 = .ok (.aload_n 0, 1) := by decide +kernel
theorem dX3_run_17 : decode cX3_run 17 = .ok (.getfield 40, 3) := by decide +kernel
theorem dX3_run_20 : decode cX3_run 20 = .ok (.iconst 1, 1) := by decide +kernel
theorem dX3_run_21 : decode cX3_run 21 = .ok (.if_icmp .le 16, 3) := by decide +kernel
theorem dX3_run_24 : decode cX3_run 24 = .ok (.aload_n 0, 1) := by decide +kernel
theorem dX3_run_25 : decode cX3_run 25 = .ok (.aload_n 1, 1) := by decide +kernel
theorem dX3_run_26 : decode cX3_run 26 = .ok (.aload_n 2, 1) := by decide +kernel
theorem dX3_run_27 : decode cX3_run 27 = .ok (.iload_n 3, 1) := by decide +kernel
theorem dX3_run_28 : decode cX3_run 28 = .ok (.invokevirtual 66, 3) := by decide +kernel
theorem dX3_run_31 : decode cX3_run 31 = .ok (.iinc 3 1, 3) := by decide +kernel
theorem dX3_run_34 : decode cX3_run 34 = .ok (.goto (-26), 3) := by decide +kernel
theorem dX3_run_37 : decode cX3_run 37 = .ok (.return_, 1) := by decide +kernel
theorem dX3_settle_0 : decode cX3_settle 0 = .ok (.iconst 0, 1) := by decide +kernel
theorem dX3_settle_1 : decode cX3_settle 1 = .ok (.istore_n 2, 1) := by decide +kernel
theorem dX3_settle_2 : decode cX3_settle 2 = .ok (.iload_n 2, 1) := by decide +kernel
theorem dX3_settle_3 : decode cX3_settle 3 = .ok (.aload_n 0, 1) := by decide +kernel
theorem dX3_settle_4 : decode cX3_settle 4 = .ok (.getfield 37, 3) := by decide +kernel
theorem dX3_settle_7 : decode cX3_settle 7 = .ok (.if_icmp .ge 56, 3) := by decide +kernel
theorem dX3_settle_10 : decode cX3_settle 10 = .ok (.aload_n 1, 1) := by decide +kernel
theorem dX3_settle_11 : decode cX3_settle 11 = .ok (.getfield 77, 3) := by decide +kernel
theorem dX3_settle_14 : decode cX3_settle 14 = .ok (.iload_n 2, 1) := by decide +kernel
theorem dX3_settle_15 : decode cX3_settle 15 = .ok (.iaload, 1) := by decide +kernel
theorem dX3_settle_16 : decode cX3_settle 16 = .ok (.istore_n 3, 1) := by decide +kernel
theorem dX3_settle_17 : decode cX3_settle 17 = .ok (.aload_n 1, 1) := by decide +kernel
theorem dX3_settle_18 : decode cX3_settle 18 = .ok (.getfield 89, 3) := by decide +kernel
theorem dX3_settle_21 : decode cX3_settle 21 = .ok (.iload_n 3, 1) := by decide +kernel
theorem dX3_settle_22 : decode cX3_settle 22 = .ok (.iaload, 1) := by decide +kernel
theorem dX3_settle_23 : decode cX3_settle 23 = .ok (.aload_n 0, 1) := by decide +kernel
theorem dX3_settle_24 : decode cX3_settle 24 = .ok (.getfield 15, 3) := by decide +kernel
theorem dX3_settle_27 : decode cX3_settle 27 = .ok (.iload_n 2, 1) := by decide +kernel
theorem dX3_settle_28 : decode cX3_settle 28 = .ok (.baload, 1) := by decide +kernel
theorem dX3_settle_29 : decode cX3_settle 29 = .ok (.ifCond .eq 7, 3) := by decide +kernel
theorem dX3_settle_32 : decode cX3_settle 32 = .ok (.iconst 1, 1) := by decide +kernel
theorem dX3_settle_33 : decode cX3_settle 33 = .ok (.goto 4, 3) := by decide +kernel
theorem dX3_settle_36 : decode cX3_settle 36 = .ok (.iconst (-1), 1) := by decide +kernel
theorem dX3_settle_37 : decode cX3_settle 37 = .ok (.iadd, 1) := by decide +kernel
theorem dX3_settle_38 : decode cX3_settle 38 = .ok (.istore 4, 2) := by decide +kernel
theorem dX3_settle_40 : decode cX3_settle 40 = .ok (.aload_n 1, 1) := by decide +kernel
theorem dX3_settle_41 : decode cX3_settle 41 = .ok (.getfield 89, 3) := by decide +kernel
theorem dX3_settle_44 : decode cX3_settle 44 = .ok (.iload_n 3, 1) := by decide +kernel
theorem dX3_settle_45 : decode cX3_settle 45 = .ok (.iconst 0, 1) := by decide +kernel
theorem dX3_settle_46 : decode cX3_settle 46 = .ok (.bipush 9, 2) := by decide +kernel
theorem dX3_settle_48 : decode cX3_settle 48 = .ok (.iload 4, 2) := by decide +kernel
theorem dX3_settle_50 : decode cX3_settle 50 = .ok (.invokestatic 98, 3) := by decide +kernel
theorem dX3_settle_53 : decode cX3_settle 53 = .ok (.invokestatic 104, 3) := by decide +kernel
theorem dX3_settle_56 : decode cX3_settle 56 = .ok (.iastore, 1) := by decide +kernel
theorem dX3_settle_57 : decode cX3_settle 57 = .ok (.iinc 2 1, 3) := by decide +kernel
theorem dX3_settle_60 : decode cX3_settle 60 = .ok (.goto (-58), 3) := by decide +kernel
theorem dX3_settle_63 : decode cX3_settle 63 = .ok (.iconst 0, 1) := by decide +kernel
theorem dX3_settle_64 : decode cX3_settle 64 = .ok (.istore_n 2, 1) := by decide +kernel
theorem dX3_settle_65 : decode cX3_settle 65 = .ok (.iload_n 2, 1) := by decide +kernel
theorem dX3_settle_66 : decode cX3_settle 66 = .ok (.aload_n 0, 1) := by decide +kernel
theorem dX3_settle_67 : decode cX3_settle 67 = .ok (.getfield 43, 3) := by decide +kernel
theorem dX3_settle_70 : decode cX3_settle 70 = .ok (.if_icmp .ge 25, 3) := by decide +kernel
theorem dX3_settle_73 : decode cX3_settle 73 = .ok (.aload_n 1, 1) := by decide +kernel
theorem dX3_settle_74 : decode cX3_settle 74 = .ok (.aload_n 0, 1) := by decide +kernel
theorem dX3_settle_75 : decode cX3_settle 75 = .ok (.getfield 25, 3) := by decide +kernel
theorem dX3_settle_78 : decode cX3_settle 78 = .ok (.iload_n 2, 1) := by decide +kernel
theorem dX3_settle_79 : decode cX3_settle 79 = .ok (.iaload, 1) := by decide +kernel
theorem dX3_settle_80 : decode cX3_settle 80 = .ok (.aload_n 0, 1) := by decide +kernel
theorem dX3_settle_81 : decode cX3_settle 81 = .ok (.getfield 28, 3) := by decide +kernel
theorem dX3_settle_84 : decode cX3_settle 84 = .ok (.iload_n 2, 1) := by decide +kernel
theorem dX3_settle_85 : decode cX3_settle 85 = .ok (.iaload, 1) := by decide +kernel
theorem dX3_settle_86 : decode cX3_settle 86 = .ok (.invokevirtual 107, 3) := by decide +kernel
theorem dX3_settle_89 : decode cX3_settle 89 = .ok (.iinc 2 1, 3) := by decide +kernel
theorem dX3_settle_92 : decode cX3_settle 92 = .ok (.goto (-27), 3) := by decide +kernel
theorem dX3_settle_95 : decode cX3_settle 95 = .ok (.aload_n 1, 1) := by decide +kernel
theorem dX3_settle_96 : decode cX3_settle 96 = .ok (.sipush 9999, 3) := by decide +kernel
theorem dX3_settle_99 : decode cX3_settle 99 = .ok (.aload_n 1, 1) := by decide +kernel
theorem dX3_settle_100 : decode cX3_settle 100 = .ok (.getfield 111, 3) := by decide +kernel
theorem dX3_settle_103 : decode cX3_settle 103 = .ok (.aload_n 0, 1) := by decide +kernel
theorem dX3_settle_104 : decode cX3_settle 104 = .ok (.getfield 43, 3) := by decide +kernel
theorem dX3_settle_107 : decode cX3_settle 107 = .ok (.iadd, 1) := by decide +kernel
theorem dX3_settle_108 : decode cX3_settle 108 = .ok (.invokestatic 98, 3) := by decide +kernel
theorem dX3_settle_111 : decode cX3_settle 111 = .ok (.putfield 111, 3) := by decide +kernel
theorem dX3_settle_114 : decode cX3_settle 114 = .ok (.aload_n 1, 1) := by decide +kernel
theorem dX3_settle_115 : decode cX3_settle 115 = .ok (.dup, 1) := by decide +kernel
theorem dX3_settle_116 : decode cX3_settle 116 = .ok (.getfield 92, 3) := by decide +kernel
theorem dX3_settle_119 : decode cX3_settle 119 = .ok (.iconst 1, 1) := by decide +kernel
theorem dX3_settle_120 : decode cX3_settle 120 = .ok (.iadd, 1) := by decide +kernel
theorem dX3_settle_121 : decode cX3_settle 121 = .ok (.putfield 92, 3) := by decide +kernel
theorem dX3_settle_124 : decode cX3_settle 124 = .ok (.return_, 1) := by decide +kernel
theorem dX3_pairOf_0 : decode cX3_pairOf 0 = .ok (.iconst 0, 1) := by decide +kernel
theorem dX3_pairOf_1 : decode cX3_pairOf 1 = .ok (.istore_n 3, 1) := by decide +kernel
theorem dX3_pairOf_2 : decode cX3_pairOf 2 = .ok (.iload_n 3, 1) := by decide +kernel
theorem dX3_pairOf_3 : decode cX3_pairOf 3 = .ok (.aload_n 0, 1) := by decide +kernel
theorem dX3_pairOf_4 : decode cX3_pairOf 4 = .ok (.getfield 43, 3) := by decide +kernel
theorem dX3_pairOf_7 : decode cX3_pairOf 7 = .ok (.if_icmp .ge 18, 3) := by decide +kernel
theorem dX3_pairOf_10 : decode cX3_pairOf 10 = .ok (.aload_n 1, 1) := by decide +kernel
theorem dX3_pairOf_11 : decode cX3_pairOf 11 = .ok (.iload_n 3, 1) := by decide +kernel
theorem dX3_pairOf_12 : decode cX3_pairOf 12 = .ok (.iaload, 1) := by decide +kernel
theorem dX3_pairOf_13 : decode cX3_pairOf 13 = .ok (.iload_n 2, 1) := by decide +kernel
theorem dX3_pairOf_14 : decode cX3_pairOf 14 = .ok (.if_icmp .ne 5, 3) := by decide +kernel
theorem dX3_pairOf_17 : decode cX3_pairOf 17 = .ok (.iload_n 3, 1) := by decide +kernel
theorem dX3_pairOf_18 : decode cX3_pairOf 18 = .ok (.ireturn, 1) := by decide +kernel
theorem dX3_pairOf_19 : decode cX3_pairOf 19 = .ok (.iinc 3 1, 3) := by decide +kernel
theorem dX3_pairOf_22 : decode cX3_pairOf 22 = .ok (.goto (-20), 3) := by decide +kernel
theorem dX3_pairOf_25 : decode cX3_pairOf 25 = .ok (.iconst (-1), 1) := by decide +kernel
theorem dX3_pairOf_26 : decode cX3_pairOf 26 = .ok (.ireturn, 1) := by decide +kernel
theorem dX3_touchedBy_0 : decode cX3_touchedBy 0 = .ok (.aload_n 0, 1) := by decide +kernel
theorem dX3_touchedBy_1 : decode cX3_touchedBy 1 = .ok (.aload_n 0, 1) := by decide +kernel
theorem dX3_touchedBy_2 : decode cX3_touchedBy 2 = .ok (.getfield 25, 3) := by decide +kernel
theorem dX3_touchedBy_5 : decode cX3_touchedBy 5 = .ok (.iload_n 1, 1) := by decide +kernel
theorem dX3_touchedBy_6 : decode cX3_touchedBy 6 = .ok (.invokevirtual 114, 3) := by decide +kernel
theorem dX3_touchedBy_9 : decode cX3_touchedBy 9 = .ok (.istore_n 2, 1) := by decide +kernel
theorem dX3_touchedBy_10 : decode cX3_touchedBy 10 = .ok (.iload_n 2, 1) := by decide +kernel
theorem dX3_touchedBy_11 : decode cX3_touchedBy 11 = .ok (.ifCond .lt 12, 3) := by decide +kernel
theorem dX3_touchedBy_14 : decode cX3_touchedBy 14 = .ok (.aload_n 0, 1) := by decide +kernel
theorem dX3_touchedBy_15 : decode cX3_touchedBy 15 = .ok (.getfield 28, 3) := by decide +kernel
theorem dX3_touchedBy_18 : decode cX3_touchedBy 18 = .ok (.iload_n 2, 1) := by decide +kernel
theorem dX3_touchedBy_19 : decode cX3_touchedBy 19 = .ok (.iaload, 1) := by decide +kernel
theorem dX3_touchedBy_20 : decode cX3_touchedBy 20 = .ok (.goto 4, 3) := by decide +kernel
theorem dX3_touchedBy_23 : decode cX3_touchedBy 23 = .ok (.iconst (-1), 1) := by decide +kernel
theorem dX3_touchedBy_24 : decode cX3_touchedBy 24 = .ok (.ireturn, 1) := by decide +kernel
theorem dX3_toucherOf_0 : decode cX3_toucherOf 0 = .ok (.aload_n 0, 1) := by decide +kernel
theorem dX3_toucherOf_1 : decode cX3_toucherOf 1 = .ok (.aload_n 0, 1) := by decide +kernel
theorem dX3_toucherOf_2 : decode cX3_toucherOf 2 = .ok (.getfield 28, 3) := by decide +kernel
theorem dX3_toucherOf_5 : decode cX3_toucherOf 5 = .ok (.iload_n 1, 1) := by decide +kernel
theorem dX3_toucherOf_6 : decode cX3_toucherOf 6 = .ok (.invokevirtual 114, 3) := by decide +kernel
theorem dX3_toucherOf_9 : decode cX3_toucherOf 9 = .ok (.istore_n 2, 1) := by decide +kernel
theorem dX3_toucherOf_10 : decode cX3_toucherOf 10 = .ok (.iload_n 2, 1) := by decide +kernel
theorem dX3_toucherOf_11 : decode cX3_toucherOf 11 = .ok (.ifCond .lt 12, 3) := by decide +kernel
theorem dX3_toucherOf_14 : decode cX3_toucherOf 14 = .ok (.aload_n 0, 1) := by decide +kernel
theorem dX3_toucherOf_15 : decode cX3_toucherOf 15 = .ok (.getfield 25, 3) := by decide +kernel
theorem dX3_toucherOf_18 : decode cX3_toucherOf 18 = .ok (.iload_n 2, 1) := by decide +kernel
theorem dX3_toucherOf_19 : decode cX3_toucherOf 19 = .ok (.iaload, 1) := by decide +kernel
theorem dX3_toucherOf_20 : decode cX3_toucherOf 20 = .ok (.goto 4, 3) := by decide +kernel
theorem dX3_toucherOf_23 : decode cX3_toucherOf 23 = .ok (.iconst (-1), 1) := by decide +kernel
theorem dX3_toucherOf_24 : decode cX3_toucherOf 24 = .ok (.ireturn, 1) := by decide +kernel
theorem dX3_strokeBy_0 : decode cX3_strokeBy 0 = .ok (.aload_n 0, 1) := by decide +kernel
theorem dX3_strokeBy_1 : decode cX3_strokeBy 1 = .ok (.aload_n 0, 1) := by decide +kernel
theorem dX3_strokeBy_2 : decode cX3_strokeBy 2 = .ok (.getfield 25, 3) := by decide +kernel
theorem dX3_strokeBy_5 : decode cX3_strokeBy 5 = .ok (.iload_n 1, 1) := by decide +kernel
theorem dX3_strokeBy_6 : decode cX3_strokeBy 6 = .ok (.invokevirtual 114, 3) := by decide +kernel
theorem dX3_strokeBy_9 : decode cX3_strokeBy 9 = .ok (.istore_n 2, 1) := by decide +kernel
theorem dX3_strokeBy_10 : decode cX3_strokeBy 10 = .ok (.iload_n 2, 1) := by decide +kernel
theorem dX3_strokeBy_11 : decode cX3_strokeBy 11 = .ok (.ifCond .lt 12, 3) := by decide +kernel
theorem dX3_strokeBy_14 : decode cX3_strokeBy 14 = .ok (.aload_n 0, 1) := by decide +kernel
theorem dX3_strokeBy_15 : decode cX3_strokeBy 15 = .ok (.getfield 22, 3) := by decide +kernel
theorem dX3_strokeBy_18 : decode cX3_strokeBy 18 = .ok (.iload_n 2, 1) := by decide +kernel
theorem dX3_strokeBy_19 : decode cX3_strokeBy 19 = .ok (.iaload, 1) := by decide +kernel
theorem dX3_strokeBy_20 : decode cX3_strokeBy 20 = .ok (.goto 4, 3) := by decide +kernel
theorem dX3_strokeBy_23 : decode cX3_strokeBy 23 = .ok (.iconst (-1), 1) := by decide +kernel
theorem dX3_strokeBy_24 : decode cX3_strokeBy 24 = .ok (.ireturn, 1) := by decide +kernel
theorem dX3_bitsOf_0 : decode cX3_bitsOf 0 = .ok (.iconst 0, 1) := by decide +kernel
theorem dX3_bitsOf_1 : decode cX3_bitsOf 1 = .ok (.istore_n 2, 1) := by decide +kernel
theorem dX3_bitsOf_2 : decode cX3_bitsOf 2 = .ok (.iconst 0, 1) := by decide +kernel
theorem dX3_bitsOf_3 : decode cX3_bitsOf 3 = .ok (.istore_n 3, 1) := by decide +kernel
theorem dX3_bitsOf_4 : decode cX3_bitsOf 4 = .ok (.iload_n 3, 1) := by decide +kernel
theorem dX3_bitsOf_5 : decode cX3_bitsOf 5 = .ok (.aload_n 0, 1) := by decide +kernel
theorem dX3_bitsOf_6 : decode cX3_bitsOf 6 = .ok (.getfield 43, 3) := by decide +kernel
theorem dX3_bitsOf_9 : decode cX3_bitsOf 9 = .ok (.if_icmp .ge 17, 3) := by decide +kernel
theorem dX3_bitsOf_12 : decode cX3_bitsOf 12 = .ok (.iload_n 2, 1) := by decide +kernel
theorem dX3_bitsOf_13 : decode cX3_bitsOf 13 = .ok (.iconst 1, 1) := by decide +kernel
theorem dX3_bitsOf_14 : decode cX3_bitsOf 14 = .ok (.aload_n 1, 1) := by decide +kernel
theorem dX3_bitsOf_15 : decode cX3_bitsOf 15 = .ok (.iload_n 3, 1) := by decide +kernel
theorem dX3_bitsOf_16 : decode cX3_bitsOf 16 = .ok (.iaload, 1) := by decide +kernel
theorem dX3_bitsOf_17 : decode cX3_bitsOf 17 = .ok (.ishl, 1) := by decide +kernel
theorem dX3_bitsOf_18 : decode cX3_bitsOf 18 = .ok (.ior, 1) := by decide +kernel
theorem dX3_bitsOf_19 : decode cX3_bitsOf 19 = .ok (.istore_n 2, 1) := by decide +kernel
theorem dX3_bitsOf_20 : decode cX3_bitsOf 20 = .ok (.iinc 3 1, 3) := by decide +kernel
theorem dX3_bitsOf_23 : decode cX3_bitsOf 23 = .ok (.goto (-19), 3) := by decide +kernel
theorem dX3_bitsOf_26 : decode cX3_bitsOf 26 = .ok (.iload_n 2, 1) := by decide +kernel
theorem dX3_bitsOf_27 : decode cX3_bitsOf 27 = .ok (.ireturn, 1) := by decide +kernel
theorem dX3_touchers_0 : decode cX3_touchers 0 = .ok (.aload_n 0, 1) := by decide +kernel
theorem dX3_touchers_1 : decode cX3_touchers 1 = .ok (.aload_n 0, 1) := by decide +kernel
theorem dX3_touchers_2 : decode cX3_touchers 2 = .ok (.getfield 25, 3) := by decide +kernel
theorem dX3_touchers_5 : decode cX3_touchers 5 = .ok (.invokevirtual 118, 3) := by decide +kernel
theorem dX3_touchers_8 : decode cX3_touchers 8 = .ok (.ireturn, 1) := by decide +kernel
theorem dX3_touchedOnes_0 : decode cX3_touchedOnes 0 = .ok (.aload_n 0, 1) := by decide +kernel
theorem dX3_touchedOnes_1 : decode cX3_touchedOnes 1 = .ok (.aload_n 0, 1) := by decide +kernel
theorem dX3_touchedOnes_2 : decode cX3_touchedOnes 2 = .ok (.getfield 28, 3) := by decide +kernel
theorem dX3_touchedOnes_5 : decode cX3_touchedOnes 5 = .ok (.invokevirtual 118, 3) := by decide +kernel
theorem dX3_touchedOnes_8 : decode cX3_touchedOnes 8 = .ok (.ireturn, 1) := by decide +kernel
theorem dX3_goingOnes_0 : decode cX3_goingOnes 0 = .ok (.iconst 0, 1) := by decide +kernel
theorem dX3_goingOnes_1 : decode cX3_goingOnes 1 = .ok (.istore_n 2, 1) := by decide +kernel
theorem dX3_goingOnes_2 : decode cX3_goingOnes 2 = .ok (.iconst 0, 1) := by decide +kernel
theorem dX3_goingOnes_3 : decode cX3_goingOnes 3 = .ok (.istore_n 3, 1) := by decide +kernel
theorem dX3_goingOnes_4 : decode cX3_goingOnes 4 = .ok (.iload_n 3, 1) := by decide +kernel
theorem dX3_goingOnes_5 : decode cX3_goingOnes 5 = .ok (.aload_n 0, 1) := by decide +kernel
theorem dX3_goingOnes_6 : decode cX3_goingOnes 6 = .ok (.getfield 37, 3) := by decide +kernel
theorem dX3_goingOnes_9 : decode cX3_goingOnes 9 = .ok (.if_icmp .ge 33, 3) := by decide +kernel
theorem dX3_goingOnes_12 : decode cX3_goingOnes 12 = .ok (.iload_n 2, 1) := by decide +kernel
theorem dX3_goingOnes_13 : decode cX3_goingOnes 13 = .ok (.aload_n 0, 1) := by decide +kernel
theorem dX3_goingOnes_14 : decode cX3_goingOnes 14 = .ok (.getfield 15, 3) := by decide +kernel
theorem dX3_goingOnes_17 : decode cX3_goingOnes 17 = .ok (.iload_n 3, 1) := by decide +kernel
theorem dX3_goingOnes_18 : decode cX3_goingOnes 18 = .ok (.baload, 1) := by decide +kernel
theorem dX3_goingOnes_19 : decode cX3_goingOnes 19 = .ok (.ifCond .eq 14, 3) := by decide +kernel
theorem dX3_goingOnes_22 : decode cX3_goingOnes 22 = .ok (.iconst 1, 1) := by decide +kernel
theorem dX3_goingOnes_23 : decode cX3_goingOnes 23 = .ok (.aload_n 1, 1) := by decide +kernel
theorem dX3_goingOnes_24 : decode cX3_goingOnes 24 = .ok (.getfield 77, 3) := by decide +kernel
theorem dX3_goingOnes_27 : decode cX3_goingOnes 27 = .ok (.iload_n 3, 1) := by decide +kernel
theorem dX3_goingOnes_28 : decode cX3_goingOnes 28 = .ok (.iaload, 1) := by decide +kernel
theorem dX3_goingOnes_29 : decode cX3_goingOnes 29 = .ok (.ishl, 1) := by decide +kernel
theorem dX3_goingOnes_30 : decode cX3_goingOnes 30 = .ok (.goto 4, 3) := by decide +kernel
theorem dX3_goingOnes_33 : decode cX3_goingOnes 33 = .ok (.iconst 0, 1) := by decide +kernel
theorem dX3_goingOnes_34 : decode cX3_goingOnes 34 = .ok (.ior, 1) := by decide +kernel
theorem dX3_goingOnes_35 : decode cX3_goingOnes 35 = .ok (.istore_n 2, 1) := by decide +kernel
theorem dX3_goingOnes_36 : decode cX3_goingOnes 36 = .ok (.iinc 3 1, 3) := by decide +kernel
theorem dX3_goingOnes_39 : decode cX3_goingOnes 39 = .ok (.goto (-35), 3) := by decide +kernel
theorem dX3_goingOnes_42 : decode cX3_goingOnes 42 = .ok (.iload_n 2, 1) := by decide +kernel
theorem dX3_goingOnes_43 : decode cX3_goingOnes 43 = .ok (.ireturn, 1) := by decide +kernel
section Walk
variable {p : Program} {l : Launch} {e : Env} {s : State} {m : MethodId} {args : Array Value} {below : List Frame} {meth : Method} {c : Code} {G : GG} {B : Nat}
set_option maxHeartbeats 1000000 in
set_option maxRecDepth 10000 in
theorem wX3_nextAhead_4 (cx : Cx p s m args c cX3_nextAhead 3 RX3 G) (hr : meth.sig.returnType = (some .int)) (hlk : meth.locks = false) : ∀ (n : Nat) (x2 : Int32)  (M : Mem) (q : Int32 × Mem), fX3_nextAhead_4 n x2 M = some q → ∀ (H : Heap) (locs : List Loc) (ls : Array Slot), Wo Ph G B 205 s M H locs → lv_has ls 3 [(0, .ref (B + 108)), (2, .int x2)] → W p l e (rmN (2)) s m args below meth c H locs 0 0 (MQ below (QcI Ph G B 205 q.1 q.2) args s 0 0 (fr B)) (F0 m 4 ls []) := by
  intro n
  induction n with
  | zero =>
    intro x2 M q hf H locs ls wo hl
    have hf : none = some q := hf
    cases hf
  | succ n ih =>
    intro x2 M q hf H locs ls wo hl
    rw [fX3_nextAhead_4] at hf
    refine lv_iload_n cx.1 cx.2.1 dX3_nextAhead_4 rfl (lv_at hl 1 rfl) ?_
    refine lv_if_lt (tgt := 25) cx.1 cx.2.1 dX3_nextAhead_5 (by decide) (fun c3 => ?_) (fun c3 => ?_)
    · rw [if_pos c3] at hf
      refine lv_iconst (v := (-1)) cx.1 cx.2.1 dX3_nextAhead_25 (by decide) ?_
      have hq := Option.some.inj hf
      subst hq
      exact r_iret cx wo hr hlk dX3_nextAhead_26
    · rw [if_neg c3] at hf
      refine lv_aload_n cx.1 cx.2.1 dX3_nextAhead_8 rfl (lv_at hl 0 rfl) ?_
      refine r_getR cx wo ad_108.1 ad_108.2.1 ad_108.2.2 fiX3_15 (fn_108_2 wo.2.2.2.1) (by decide) dX3_nextAhead_9 ?_
      refine lv_iload_n cx.1 cx.2.1 dX3_nextAhead_12 rfl (lv_at hl 1 rfl) ?_
      obtain ⟨g4, hf⟩ := gd_elim hf
      refine r_zald cx wo ad_110.1 ad_110.2.1 ad_110.2.2 (by rw [ln_110]; exact g4) dX3_nextAhead_13 ?_
      refine lv_if_eq (tgt := 19) cx.1 cx.2.1 dX3_nextAhead_14 (by decide) (fun c5 => ?_) (fun c5 => ?_)
      · rw [if_pos c5] at hf
        obtain ⟨y6, e7, hf⟩ := lt_elim hf
        refine lv_iinc (v := y6) (lv' := [(2, .int y6), (0, .ref (B + 108))]) cx.1 cx.2.1 dX3_nextAhead_19 hl (k := 1) rfl (by rw [e7]; rfl) (by decide) rfl (fun ls hl => ?_)
        refine lv_goto (tgt := 4) cx.1 cx.2.1 dX3_nextAhead_22 (by decide) ?_
        exact ih _ _ _ hf _ _ _ wo (lv_sub hl [1, 0] rfl)
      · rw [if_neg c5] at hf
        refine lv_iload_n cx.1 cx.2.1 dX3_nextAhead_17 rfl (lv_at hl 1 rfl) ?_
        have hq := Option.some.inj hf
        subst hq
        exact r_iret cx wo hr hlk dX3_nextAhead_18
set_option maxHeartbeats 1000000 in
set_option maxRecDepth 10000 in
theorem mX3_nextAhead (l : Launch) {G : GG} {B : Nat} {x1 : Int32}  {M : Mem} {q : Int32 × Mem} (hf : fX3_nextAhead x1 M = some q) : Met l yX3_nextAhead (wsG yX3_nextAhead cX3_nextAhead 3 (some .int)) (rmN (2)) (PcW Ph G B 205 M [.ref (B + 108), .int x1]) (QcI Ph G B 205 q.1 q.2) 0 0 (fr B) := by
  refine mk_Met (own := RX3) rfl rfl (Nat.le_of_ble_eq_true rfl) ?_
  intro p e s m below meth c ls cx hr hlk wo hl
  have hl : lv_has ls 3 [(0, .ref (B + 108)), (1, .int x1)] := hl
  unfold fX3_nextAhead at hf
  refine lv_iload_n cx.1 cx.2.1 dX3_nextAhead_0 rfl (lv_at hl 1 rfl) ?_
  refine lv_iconst (v := 1) cx.1 cx.2.1 dX3_nextAhead_1 (by decide) ?_
  refine lv_isub cx.1 cx.2.1 dX3_nextAhead_2 ?_
  obtain ⟨y1, e2, hf⟩ := lt_elim hf
  refine r_topi e2 ?_
  refine lv_istore_n (lv' := [(2, .int y1), (0, .ref (B + 108)), (1, .int x1)]) cx.1 cx.2.1 dX3_nextAhead_3 rfl hl (by decide) rfl (fun ls hl => ?_)
  exact wX3_nextAhead_4 cx hr hlk _ _ _ _ hf _ _ _ wo (lv_sub hl [1, 0] rfl)
set_option maxHeartbeats 1000000 in
set_option maxRecDepth 10000 in
theorem wX3_nextBehind_4 (cx : Cx p s m args c cX3_nextBehind 3 RX3 G) (hr : meth.sig.returnType = (some .int)) (hlk : meth.locks = false) : ∀ (n : Nat) (x2 : Int32)  (M : Mem) (q : Int32 × Mem), fX3_nextBehind_4 n x2 M = some q → ∀ (H : Heap) (locs : List Loc) (ls : Array Slot), Wo Ph G B 205 s M H locs → lv_has ls 3 [(0, .ref (B + 108)), (2, .int x2)] → W p l e (rmN (2)) s m args below meth c H locs 0 0 (MQ below (QcI Ph G B 205 q.1 q.2) args s 0 0 (fr B)) (F0 m 4 ls []) := by
  intro n
  induction n with
  | zero =>
    intro x2 M q hf H locs ls wo hl
    have hf : none = some q := hf
    cases hf
  | succ n ih =>
    intro x2 M q hf H locs ls wo hl
    rw [fX3_nextBehind_4] at hf
    refine lv_iload_n cx.1 cx.2.1 dX3_nextBehind_4 rfl (lv_at hl 1 rfl) ?_
    refine lv_aload_n cx.1 cx.2.1 dX3_nextBehind_5 rfl (lv_at hl 0 rfl) ?_
    refine r_getI cx wo ad_108.1 ad_108.2.1 ad_108.2.2 fiX3_37 dX3_nextBehind_6 ?_
    refine lv_icmp_ge (tgt := 29) cx.1 cx.2.1 dX3_nextBehind_9 (by decide) (fun c3 => ?_) (fun c3 => ?_)
    · rw [if_pos c3] at hf
      refine lv_iconst (v := (-1)) cx.1 cx.2.1 dX3_nextBehind_29 (by decide) ?_
      have hq := Option.some.inj hf
      subst hq
      exact r_iret cx wo hr hlk dX3_nextBehind_30
    · rw [if_neg c3] at hf
      refine lv_aload_n cx.1 cx.2.1 dX3_nextBehind_12 rfl (lv_at hl 0 rfl) ?_
      refine r_getR cx wo ad_108.1 ad_108.2.1 ad_108.2.2 fiX3_15 (fn_108_2 wo.2.2.2.1) (by decide) dX3_nextBehind_13 ?_
      refine lv_iload_n cx.1 cx.2.1 dX3_nextBehind_16 rfl (lv_at hl 1 rfl) ?_
      obtain ⟨g4, hf⟩ := gd_elim hf
      refine r_zald cx wo ad_110.1 ad_110.2.1 ad_110.2.2 (by rw [ln_110]; exact g4) dX3_nextBehind_17 ?_
      refine lv_if_eq (tgt := 23) cx.1 cx.2.1 dX3_nextBehind_18 (by decide) (fun c5 => ?_) (fun c5 => ?_)
      · rw [if_pos c5] at hf
        obtain ⟨y6, e7, hf⟩ := lt_elim hf
        refine lv_iinc (v := y6) (lv' := [(2, .int y6), (0, .ref (B + 108))]) cx.1 cx.2.1 dX3_nextBehind_23 hl (k := 1) rfl (by rw [e7]; rfl) (by decide) rfl (fun ls hl => ?_)
        refine lv_goto (tgt := 4) cx.1 cx.2.1 dX3_nextBehind_26 (by decide) ?_
        exact ih _ _ _ hf _ _ _ wo (lv_sub hl [1, 0] rfl)
      · rw [if_neg c5] at hf
        refine lv_iload_n cx.1 cx.2.1 dX3_nextBehind_21 rfl (lv_at hl 1 rfl) ?_
        have hq := Option.some.inj hf
        subst hq
        exact r_iret cx wo hr hlk dX3_nextBehind_22
set_option maxHeartbeats 1000000 in
set_option maxRecDepth 10000 in
theorem mX3_nextBehind (l : Launch) {G : GG} {B : Nat} {x1 : Int32}  {M : Mem} {q : Int32 × Mem} (hf : fX3_nextBehind x1 M = some q) : Met l yX3_nextBehind (wsG yX3_nextBehind cX3_nextBehind 3 (some .int)) (rmN (2)) (PcW Ph G B 205 M [.ref (B + 108), .int x1]) (QcI Ph G B 205 q.1 q.2) 0 0 (fr B) := by
  refine mk_Met (own := RX3) rfl rfl (Nat.le_of_ble_eq_true rfl) ?_
  intro p e s m below meth c ls cx hr hlk wo hl
  have hl : lv_has ls 3 [(0, .ref (B + 108)), (1, .int x1)] := hl
  unfold fX3_nextBehind at hf
  refine lv_iload_n cx.1 cx.2.1 dX3_nextBehind_0 rfl (lv_at hl 1 rfl) ?_
  refine lv_iconst (v := 1) cx.1 cx.2.1 dX3_nextBehind_1 (by decide) ?_
  refine lv_iadd cx.1 cx.2.1 dX3_nextBehind_2 ?_
  obtain ⟨y1, e2, hf⟩ := lt_elim hf
  refine r_topi e2 ?_
  refine lv_istore_n (lv' := [(2, .int y1), (0, .ref (B + 108)), (1, .int x1)]) cx.1 cx.2.1 dX3_nextBehind_3 rfl hl (by decide) rfl (fun ls hl => ?_)
  exact wX3_nextBehind_4 cx hr hlk _ _ _ _ hf _ _ _ wo (lv_sub hl [1, 0] rfl)
set_option maxHeartbeats 1000000 in
set_option maxRecDepth 10000 in
theorem wX3_weigh_149 (cx : Cx p s m args c cX3_weigh 8 RX3 G) (hr : meth.sig.returnType = none) (hlk : meth.locks = false) {k3 : Nat → Nat → Int32 → Int32 → Mem → Option (Mem)} (hk3 : ∀ (a1 : Nat) (a2 : Nat) (x3 : Int32) (x4 : Int32) (h1 : a1 ∈ rivers) (h2 : a2 ∈ rules) (M : Mem) (q : Mem), k3 a1 a2 x3 x4 M = some q → ∀ (H : Heap) (locs : List Loc) (ls : Array Slot), Wo Ph G B 205 s M H locs → lv_has ls 8 [(0, .ref (B + 108)), (1, .ref (B + a1)), (2, .ref (B + a2)), (3, .int x3), (4, .int x4)] → W p l e (rmN (4)) s m args below meth c H locs 0 0 (MQ below (QcV Ph G B 205 q) args s 0 0 (fr B)) (F0 m 3 ls [])) : ∀ (a1 : Nat) (a2 : Nat) (x3 : Int32) (x4 : Int32) (s0 : Int32) (s1 : Int32) (h1 : a1 ∈ rivers) (h2 : a2 ∈ rules) (M : Mem) (q : Mem), fX3_weigh_149 k3 a1 a2 x3 x4 s0 s1 M = some q → ∀ (H : Heap) (locs : List Loc) (ls : Array Slot), Wo Ph G B 205 s M H locs → lv_has ls 8 [(0, .ref (B + 108)), (1, .ref (B + a1)), (2, .ref (B + a2)), (3, .int x3), (4, .int x4)] → W p l e (rmN (4)) s m args below meth c H locs 0 0 (MQ below (QcV Ph G B 205 q) args s 0 0 (fr B)) (F0 m 149 ls [.int s0, .int s1, .ref (B + (a2 + 2))]) := by
  intro a1 a2 x3 x4 s0 s1 h1 h2 M q hf H locs ls wo hl
  unfold fX3_weigh_149 at hf
  obtain ⟨g36, hf⟩ := gd_elim hf
  obtain ⟨M37, e38, hf⟩ := lt_elim hf
  refine r_iast cx wo (ruA2 h2).1 (ruA2 h2).2.1 (ruA2 h2).2.2 (by rw [(ruL2 h2)]; exact g36) dX3_weigh_149 (fun H locs wo => ?_)
  rw [← e38] at wo
  refine lv_aload_n cx.1 cx.2.1 dX3_weigh_150 rfl (lv_at hl 2 rfl) ?_
  refine r_getR cx wo (rul_ok _ h2).1.1 (rul_ok _ h2).1.2.1 (rul_ok _ h2).1.2.2 fiX3_83 (ru_fn3 wo.2.2.2.1 h2) (by omega) dX3_weigh_151 ?_
  refine lv_bipush (v := 6) cx.1 cx.2.1 dX3_weigh_154 (by decide) ?_
  refine lv_aload_n cx.1 cx.2.1 dX3_weigh_156 rfl (lv_at hl 1 rfl) ?_
  refine r_getI cx wo (riv_ok _ h1).1.1 (riv_ok _ h1).1.2.1 (riv_ok _ h1).1.2.2 fiX3_92 dX3_weigh_157 ?_
  refine lv_bipush (v := 7) cx.1 cx.2.1 dX3_weigh_160 (by decide) ?_
  refine lv_irem cx.1 cx.2.1 dX3_weigh_162 (by decide) ?_
  obtain ⟨g39, hf⟩ := gd_elim hf
  obtain ⟨M40, e41, hf⟩ := lt_elim hf
  refine r_iast cx wo (ruA2 h2).1 (ruA2 h2).2.1 (ruA2 h2).2.2 (by rw [(ruL2 h2)]; exact g39) dX3_weigh_163 (fun H locs wo => ?_)
  rw [← e41] at wo
  refine lv_aload_n cx.1 cx.2.1 dX3_weigh_164 rfl (lv_at hl 0 rfl) ?_
  refine r_getR cx wo ad_108.1 ad_108.2.1 ad_108.2.2 fiX3_19 (fn_108_3 wo.2.2.2.1) (by decide) dX3_weigh_165 ?_
  refine lv_iload cx.1 cx.2.1 dX3_weigh_168 (lv_at hl 4 rfl) ?_
  refine lv_aload_n cx.1 cx.2.1 dX3_weigh_170 rfl (lv_at hl 2 rfl) ?_
  obtain ⟨q42, e43, hf⟩ := bd_elim hf
  refine r_Vi (rest := [.int x4, .ref (B + 111)]) cx wo (mX6_feet l h2 e43) cvX3_95 rfl (rul_ok _ h2).1.1 (rul_ok _ h2).1.2.1 (rul_ok _ h2).1.2.2 rfl rfl hl.1 rfl (Nat.le_of_ble_eq_true rfl) (hR_ok (by decide)) dX3_weigh_171 (fun H locs wo => ?_)
  obtain ⟨g44, hf⟩ := gd_elim hf
  obtain ⟨M45, e46, hf⟩ := lt_elim hf
  refine r_iast cx wo ad_111.1 ad_111.2.1 ad_111.2.2 (by rw [ln_111]; exact g44) dX3_weigh_174 (fun H locs wo => ?_)
  rw [← e46] at wo
  obtain ⟨y47, e48, hf⟩ := lt_elim hf
  refine lv_iinc (v := y47) (lv' := [(4, .int y47), (0, .ref (B + 108)), (1, .ref (B + a1)), (2, .ref (B + a2)), (3, .int x3)]) cx.1 cx.2.1 dX3_weigh_175 hl (k := 4) rfl (by rw [e48]; rfl) (by decide) rfl (fun ls hl => ?_)
  refine lv_goto (tgt := 3) cx.1 cx.2.1 dX3_weigh_178 (by decide) ?_
  exact hk3 _ _ _ _ h1 h2 _ _ hf _ _ _ wo (lv_sub hl [1, 2, 3, 4, 0] rfl)
set_option maxHeartbeats 1000000 in
set_option maxRecDepth 10000 in
theorem wX3_weigh_118 (cx : Cx p s m args c cX3_weigh 8 RX3 G) (hr : meth.sig.returnType = none) (hlk : meth.locks = false) {k3 : Nat → Nat → Int32 → Int32 → Mem → Option (Mem)} (hk3 : ∀ (a1 : Nat) (a2 : Nat) (x3 : Int32) (x4 : Int32) (h1 : a1 ∈ rivers) (h2 : a2 ∈ rules) (M : Mem) (q : Mem), k3 a1 a2 x3 x4 M = some q → ∀ (H : Heap) (locs : List Loc) (ls : Array Slot), Wo Ph G B 205 s M H locs → lv_has ls 8 [(0, .ref (B + 108)), (1, .ref (B + a1)), (2, .ref (B + a2)), (3, .int x3), (4, .int x4)] → W p l e (rmN (4)) s m args below meth c H locs 0 0 (MQ below (QcV Ph G B 205 q) args s 0 0 (fr B)) (F0 m 3 ls [])) : ∀ (a1 : Nat) (a2 : Nat) (x3 : Int32) (x4 : Int32) (x7 : Int32) (s0 : Int32) (s1 : Int32) (h1 : a1 ∈ rivers) (h2 : a2 ∈ rules) (M : Mem) (q : Mem), fX3_weigh_118 k3 a1 a2 x3 x4 x7 s0 s1 M = some q → ∀ (H : Heap) (locs : List Loc) (ls : Array Slot), Wo Ph G B 205 s M H locs → lv_has ls 8 [(0, .ref (B + 108)), (1, .ref (B + a1)), (2, .ref (B + a2)), (3, .int x3), (4, .int x4), (7, .int x7)] → W p l e (rmN (4)) s m args below meth c H locs 0 0 (MQ below (QcV Ph G B 205 q) args s 0 0 (fr B)) (F0 m 118 ls [.int s0, .int s1, .ref (B + (a2 + 2))]) := by
  intro a1 a2 x3 x4 x7 s0 s1 h1 h2 M q hf H locs ls wo hl
  unfold fX3_weigh_118 at hf
  obtain ⟨g30, hf⟩ := gd_elim hf
  obtain ⟨M31, e32, hf⟩ := lt_elim hf
  refine r_iast cx wo (ruA2 h2).1 (ruA2 h2).2.1 (ruA2 h2).2.2 (by rw [(ruL2 h2)]; exact g30) dX3_weigh_118 (fun H locs wo => ?_)
  rw [← e32] at wo
  refine lv_aload_n cx.1 cx.2.1 dX3_weigh_119 rfl (lv_at hl 2 rfl) ?_
  refine r_getR cx wo (rul_ok _ h2).1.1 (rul_ok _ h2).1.2.1 (rul_ok _ h2).1.2.2 fiX3_83 (ru_fn3 wo.2.2.2.1 h2) (by omega) dX3_weigh_120 ?_
  refine lv_iconst (v := 5) cx.1 cx.2.1 dX3_weigh_123 (by decide) ?_
  refine lv_iload cx.1 cx.2.1 dX3_weigh_124 (lv_at hl 5 rfl) ?_
  refine lv_if_lt (tgt := 147) cx.1 cx.2.1 dX3_weigh_126 (by decide) (fun c33 => ?_) (fun c33 => ?_)
  · rw [if_pos c33] at hf
    refine lv_bipush (v := 99) cx.1 cx.2.1 dX3_weigh_147 (by decide) ?_
    exact wX3_weigh_149 cx hr hlk hk3 _ _ _ _ _ _ h1 h2 _ _ hf _ _ _ wo (lv_sub hl [0, 1, 2, 3, 4] rfl)
  · rw [if_neg c33] at hf
    refine lv_aload_n cx.1 cx.2.1 dX3_weigh_129 rfl (lv_at hl 0 rfl) ?_
    refine r_getR cx wo ad_108.1 ad_108.2.1 ad_108.2.2 fiX3_9 (fn_108_1 wo.2.2.2.1) (by decide) dX3_weigh_130 ?_
    refine lv_iload cx.1 cx.2.1 dX3_weigh_133 (lv_at hl 4 rfl) ?_
    obtain ⟨g34, hf⟩ := gd_elim hf
    refine r_iald cx wo ad_109.1 ad_109.2.1 ad_109.2.2 (by rw [ln_109]; exact g34) dX3_weigh_135 ?_
    refine lv_aload_n cx.1 cx.2.1 dX3_weigh_136 rfl (lv_at hl 0 rfl) ?_
    refine r_getR cx wo ad_108.1 ad_108.2.1 ad_108.2.2 fiX3_9 (fn_108_1 wo.2.2.2.1) (by decide) dX3_weigh_137 ?_
    refine lv_iload cx.1 cx.2.1 dX3_weigh_140 (lv_at hl 5 rfl) ?_
    obtain ⟨g35, hf⟩ := gd_elim hf
    refine r_iald cx wo ad_109.1 ad_109.2.1 ad_109.2.2 (by rw [ln_109]; exact g35) dX3_weigh_142 ?_
    refine lv_isub cx.1 cx.2.1 dX3_weigh_143 ?_
    refine lv_goto (tgt := 149) cx.1 cx.2.1 dX3_weigh_144 (by decide) ?_
    exact wX3_weigh_149 cx hr hlk hk3 _ _ _ _ _ _ h1 h2 _ _ hf _ _ _ wo (lv_sub hl [0, 1, 2, 3, 4] rfl)
set_option maxHeartbeats 1000000 in
set_option maxRecDepth 10000 in
theorem wX3_weigh_3 (cx : Cx p s m args c cX3_weigh 8 RX3 G) (hr : meth.sig.returnType = none) (hlk : meth.locks = false) : ∀ (n : Nat) (a1 : Nat) (a2 : Nat) (x3 : Int32) (x4 : Int32) (h1 : a1 ∈ rivers) (h2 : a2 ∈ rules) (M : Mem) (q : Mem), fX3_weigh_3 n a1 a2 x3 x4 M = some q → ∀ (H : Heap) (locs : List Loc) (ls : Array Slot), Wo Ph G B 205 s M H locs → lv_has ls 8 [(0, .ref (B + 108)), (1, .ref (B + a1)), (2, .ref (B + a2)), (3, .int x3), (4, .int x4)] → W p l e (rmN (4)) s m args below meth c H locs 0 0 (MQ below (QcV Ph G B 205 q) args s 0 0 (fr B)) (F0 m 3 ls []) := by
  intro n
  induction n with
  | zero =>
    intro a1 a2 x3 x4 h1 h2 M q hf H locs ls wo hl
    have hf : none = some q := hf
    cases hf
  | succ n ih =>
    intro a1 a2 x3 x4 h1 h2 M q hf H locs ls wo hl
    rw [fX3_weigh_3] at hf
    refine lv_iload cx.1 cx.2.1 dX3_weigh_3 (lv_at hl 4 rfl) ?_
    refine lv_aload_n cx.1 cx.2.1 dX3_weigh_5 rfl (lv_at hl 0 rfl) ?_
    refine r_getI cx wo ad_108.1 ad_108.2.1 ad_108.2.2 fiX3_37 dX3_weigh_6 ?_
    refine lv_icmp_ge (tgt := 181) cx.1 cx.2.1 dX3_weigh_9 (by decide) (fun c1 => ?_) (fun c1 => ?_)
    · rw [if_pos c1] at hf
      have hq := Option.some.inj hf
      subst hq
      exact r_vret cx wo hr hlk dX3_weigh_181
    · rw [if_neg c1] at hf
      refine lv_aload_n cx.1 cx.2.1 dX3_weigh_12 rfl (lv_at hl 0 rfl) ?_
      refine r_getR cx wo ad_108.1 ad_108.2.1 ad_108.2.2 fiX3_15 (fn_108_2 wo.2.2.2.1) (by decide) dX3_weigh_13 ?_
      refine lv_iload cx.1 cx.2.1 dX3_weigh_16 (lv_at hl 4 rfl) ?_
      obtain ⟨g2, hf⟩ := gd_elim hf
      refine r_zald cx wo ad_110.1 ad_110.2.1 ad_110.2.2 (by rw [ln_110]; exact g2) dX3_weigh_18 ?_
      refine lv_if_eq (tgt := 175) cx.1 cx.2.1 dX3_weigh_19 (by decide) (fun c3 => ?_) (fun c3 => ?_)
      · rw [if_pos c3] at hf
        obtain ⟨y4, e5, hf⟩ := lt_elim hf
        refine lv_iinc (v := y4) (lv' := [(4, .int y4), (0, .ref (B + 108)), (1, .ref (B + a1)), (2, .ref (B + a2)), (3, .int x3)]) cx.1 cx.2.1 dX3_weigh_175 hl (k := 4) rfl (by rw [e5]; rfl) (by decide) rfl (fun ls hl => ?_)
        refine lv_goto (tgt := 3) cx.1 cx.2.1 dX3_weigh_178 (by decide) ?_
        exact ih _ _ _ _ h1 h2 _ _ hf _ _ _ wo (lv_sub hl [1, 2, 3, 4, 0] rfl)
      · rw [if_neg c3] at hf
        refine lv_aload_n cx.1 cx.2.1 dX3_weigh_22 rfl (lv_at hl 1 rfl) ?_
        refine r_getR cx wo (riv_ok _ h1).1.1 (riv_ok _ h1).1.2.1 (riv_ok _ h1).1.2.2 fiX3_77 (rv_fn4 wo.2.2.2.1 h1) (by omega) dX3_weigh_23 ?_
        refine lv_iload cx.1 cx.2.1 dX3_weigh_26 (lv_at hl 4 rfl) ?_
        obtain ⟨g6, hf⟩ := gd_elim hf
        refine r_iald cx wo (rvA4 h1).1 (rvA4 h1).2.1 (rvA4 h1).2.2 (by rw [(rvL4 h1)]; exact g6) dX3_weigh_28 ?_
        obtain ⟨y7, e8, hf⟩ := lt_elim hf
        refine r_topi e8 ?_
        refine lv_istore (lv' := [(5, .int y7), (0, .ref (B + 108)), (1, .ref (B + a1)), (2, .ref (B + a2)), (3, .int x3), (4, .int x4)]) cx.1 cx.2.1 dX3_weigh_29 hl (by decide) rfl (fun ls hl => ?_)
        refine lv_aload_n cx.1 cx.2.1 dX3_weigh_31 rfl (lv_at hl 1 rfl) ?_
        refine lv_iload cx.1 cx.2.1 dX3_weigh_32 (lv_at hl 5 rfl) ?_
        obtain ⟨q9, e10, hf⟩ := bd_elim hf
        refine r_Vi (rest := []) cx wo (mX3_nextAhead l e10) cvX3_69 rfl ad_108.1 ad_108.2.1 ad_108.2.2 rfl rfl hl.1 rfl (Nat.le_of_ble_eq_true rfl) (hR_ok (by decide)) dX3_weigh_34 (fun H locs wo => ?_)
        refine lv_istore (lv' := [(6, .int q9.1), (5, .int y7), (0, .ref (B + 108)), (1, .ref (B + a1)), (2, .ref (B + a2)), (3, .int x3), (4, .int x4)]) cx.1 cx.2.1 dX3_weigh_37 hl (by decide) rfl (fun ls hl => ?_)
        refine lv_aload_n cx.1 cx.2.1 dX3_weigh_39 rfl (lv_at hl 2 rfl) ?_
        refine lv_iload cx.1 cx.2.1 dX3_weigh_40 (lv_at hl 6 rfl) ?_
        obtain ⟨q11, e12, hf⟩ := bd_elim hf
        refine r_Vi (rest := []) cx wo (mX3_nextBehind l e12) cvX3_80 rfl ad_108.1 ad_108.2.1 ad_108.2.2 rfl rfl hl.1 rfl (Nat.le_of_ble_eq_true rfl) (hR_ok (by decide)) dX3_weigh_42 (fun H locs wo => ?_)
        refine lv_istore (lv' := [(7, .int q11.1), (6, .int q9.1), (5, .int y7), (0, .ref (B + 108)), (1, .ref (B + a1)), (2, .ref (B + a2)), (3, .int x3), (4, .int x4)]) cx.1 cx.2.1 dX3_weigh_45 hl (by decide) rfl (fun ls hl => ?_)
        refine lv_aload_n cx.1 cx.2.1 dX3_weigh_47 rfl (lv_at hl 5 rfl) ?_
        refine r_getR cx wo (rul_ok _ h2).1.1 (rul_ok _ h2).1.2.1 (rul_ok _ h2).1.2.2 fiX3_83 (ru_fn3 wo.2.2.2.1 h2) (by omega) dX3_weigh_48 ?_
        refine lv_iconst (v := 0) cx.1 cx.2.1 dX3_weigh_51 (by decide) ?_
        refine lv_aload_n cx.1 cx.2.1 dX3_weigh_52 rfl (lv_at hl 4 rfl) ?_
        refine r_getR cx wo (riv_ok _ h1).1.1 (riv_ok _ h1).1.2.1 (riv_ok _ h1).1.2.2 fiX3_86 (rv_fn1 wo.2.2.2.1 h1) (by omega) dX3_weigh_53 ?_
        refine lv_iload cx.1 cx.2.1 dX3_weigh_56 (lv_at hl 2 rfl) ?_
        obtain ⟨g13, hf⟩ := gd_elim hf
        refine r_iald cx wo (rvA1 h1).1 (rvA1 h1).2.1 (rvA1 h1).2.2 (by rw [(rvL1 h1)]; exact g13) dX3_weigh_58 ?_
        obtain ⟨g14, hf⟩ := gd_elim hf
        obtain ⟨M15, e16, hf⟩ := lt_elim hf
        refine r_iast cx wo (ruA2 h2).1 (ruA2 h2).2.1 (ruA2 h2).2.2 (by rw [(ruL2 h2)]; exact g14) dX3_weigh_59 (fun H locs wo => ?_)
        rw [← e16] at wo
        refine lv_aload_n cx.1 cx.2.1 dX3_weigh_60 rfl (lv_at hl 5 rfl) ?_
        refine r_getR cx wo (rul_ok _ h2).1.1 (rul_ok _ h2).1.2.1 (rul_ok _ h2).1.2.2 fiX3_83 (ru_fn3 wo.2.2.2.1 h2) (by omega) dX3_weigh_61 ?_
        refine lv_iconst (v := 1) cx.1 cx.2.1 dX3_weigh_64 (by decide) ?_
        refine lv_aload_n cx.1 cx.2.1 dX3_weigh_65 rfl (lv_at hl 4 rfl) ?_
        refine r_getR cx wo (riv_ok _ h1).1.1 (riv_ok _ h1).1.2.1 (riv_ok _ h1).1.2.2 fiX3_89 (rv_fn2 wo.2.2.2.1 h1) (by omega) dX3_weigh_66 ?_
        refine lv_iload cx.1 cx.2.1 dX3_weigh_69 (lv_at hl 2 rfl) ?_
        obtain ⟨g17, hf⟩ := gd_elim hf
        refine r_iald cx wo (rvA2 h1).1 (rvA2 h1).2.1 (rvA2 h1).2.2 (by rw [(rvL2 h1)]; exact g17) dX3_weigh_71 ?_
        obtain ⟨g18, hf⟩ := gd_elim hf
        obtain ⟨M19, e20, hf⟩ := lt_elim hf
        refine r_iast cx wo (ruA2 h2).1 (ruA2 h2).2.1 (ruA2 h2).2.2 (by rw [(ruL2 h2)]; exact g18) dX3_weigh_72 (fun H locs wo => ?_)
        rw [← e20] at wo
        refine lv_aload_n cx.1 cx.2.1 dX3_weigh_73 rfl (lv_at hl 5 rfl) ?_
        refine r_getR cx wo (rul_ok _ h2).1.1 (rul_ok _ h2).1.2.1 (rul_ok _ h2).1.2.2 fiX3_83 (ru_fn3 wo.2.2.2.1 h2) (by omega) dX3_weigh_74 ?_
        refine lv_iconst (v := 2) cx.1 cx.2.1 dX3_weigh_77 (by decide) ?_
        refine lv_iload_n cx.1 cx.2.1 dX3_weigh_78 rfl (lv_at hl 6 rfl) ?_
        obtain ⟨g21, hf⟩ := gd_elim hf
        obtain ⟨M22, e23, hf⟩ := lt_elim hf
        refine r_iast cx wo (ruA2 h2).1 (ruA2 h2).2.1 (ruA2 h2).2.2 (by rw [(ruL2 h2)]; exact g21) dX3_weigh_79 (fun H locs wo => ?_)
        rw [← e23] at wo
        refine lv_aload_n cx.1 cx.2.1 dX3_weigh_80 rfl (lv_at hl 5 rfl) ?_
        refine r_getR cx wo (rul_ok _ h2).1.1 (rul_ok _ h2).1.2.1 (rul_ok _ h2).1.2.2 fiX3_83 (ru_fn3 wo.2.2.2.1 h2) (by omega) dX3_weigh_81 ?_
        refine lv_iconst (v := 3) cx.1 cx.2.1 dX3_weigh_84 (by decide) ?_
        refine lv_iload cx.1 cx.2.1 dX3_weigh_85 (lv_at hl 7 rfl) ?_
        obtain ⟨g24, hf⟩ := gd_elim hf
        obtain ⟨M25, e26, hf⟩ := lt_elim hf
        refine r_iast cx wo (ruA2 h2).1 (ruA2 h2).2.1 (ruA2 h2).2.2 (by rw [(ruL2 h2)]; exact g24) dX3_weigh_87 (fun H locs wo => ?_)
        rw [← e26] at wo
        refine lv_aload_n cx.1 cx.2.1 dX3_weigh_88 rfl (lv_at hl 5 rfl) ?_
        refine r_getR cx wo (rul_ok _ h2).1.1 (rul_ok _ h2).1.2.1 (rul_ok _ h2).1.2.2 fiX3_83 (ru_fn3 wo.2.2.2.1 h2) (by omega) dX3_weigh_89 ?_
        refine lv_iconst (v := 4) cx.1 cx.2.1 dX3_weigh_92 (by decide) ?_
        refine lv_iload cx.1 cx.2.1 dX3_weigh_93 (lv_at hl 1 rfl) ?_
        refine lv_if_lt (tgt := 116) cx.1 cx.2.1 dX3_weigh_95 (by decide) (fun c27 => ?_) (fun c27 => ?_)
        · rw [if_pos c27] at hf
          refine lv_bipush (v := 99) cx.1 cx.2.1 dX3_weigh_116 (by decide) ?_
          exact wX3_weigh_118 cx hr hlk ih _ _ _ _ _ _ _ h1 h2 _ _ hf _ _ _ wo (lv_sub hl [3, 4, 5, 6, 7, 0] rfl)
        · rw [if_neg c27] at hf
          refine lv_aload_n cx.1 cx.2.1 dX3_weigh_98 rfl (lv_at hl 3 rfl) ?_
          refine r_getR cx wo ad_108.1 ad_108.2.1 ad_108.2.2 fiX3_9 (fn_108_1 wo.2.2.2.1) (by decide) dX3_weigh_99 ?_
          refine lv_iload cx.1 cx.2.1 dX3_weigh_102 (lv_at hl 1 rfl) ?_
          obtain ⟨g28, hf⟩ := gd_elim hf
          refine r_iald cx wo ad_109.1 ad_109.2.1 ad_109.2.2 (by rw [ln_109]; exact g28) dX3_weigh_104 ?_
          refine lv_aload_n cx.1 cx.2.1 dX3_weigh_105 rfl (lv_at hl 3 rfl) ?_
          refine r_getR cx wo ad_108.1 ad_108.2.1 ad_108.2.2 fiX3_9 (fn_108_1 wo.2.2.2.1) (by decide) dX3_weigh_106 ?_
          refine lv_iload cx.1 cx.2.1 dX3_weigh_109 (lv_at hl 7 rfl) ?_
          obtain ⟨g29, hf⟩ := gd_elim hf
          refine r_iald cx wo ad_109.1 ad_109.2.1 ad_109.2.2 (by rw [ln_109]; exact g29) dX3_weigh_111 ?_
          refine lv_isub cx.1 cx.2.1 dX3_weigh_112 ?_
          refine lv_goto (tgt := 118) cx.1 cx.2.1 dX3_weigh_113 (by decide) ?_
          exact wX3_weigh_118 cx hr hlk ih _ _ _ _ _ _ _ h1 h2 _ _ hf _ _ _ wo (lv_sub hl [3, 4, 5, 6, 7, 0] rfl)
set_option maxHeartbeats 1000000 in
set_option maxRecDepth 10000 in
theorem mX3_weigh (l : Launch) {G : GG} {B : Nat} {a1 : Nat} {a2 : Nat} {x3 : Int32} (h1 : a1 ∈ rivers) (h2 : a2 ∈ rules) {M : Mem} {q : Mem} (hf : fX3_weigh a1 a2 x3 M = some q) : Met l yX3_weigh (wsG yX3_weigh cX3_weigh 8 none) (rmN (4)) (PcW Ph G B 205 M [.ref (B + 108), .ref (B + a1), .ref (B + a2), .int x3]) (QcV Ph G B 205 q) 0 0 (fr B) := by
  refine mk_Met (own := RX3) rfl rfl (Nat.le_of_ble_eq_true rfl) ?_
  intro p e s m below meth c ls cx hr hlk wo hl
  have hl : lv_has ls 8 [(0, .ref (B + 108)), (1, .ref (B + a1)), (2, .ref (B + a2)), (3, .int x3)] := hl
  unfold fX3_weigh at hf
  refine lv_iconst (v := 0) cx.1 cx.2.1 dX3_weigh_0 (by decide) ?_
  refine lv_istore (lv' := [(4, .int 0), (0, .ref (B + 108)), (1, .ref (B + a1)), (2, .ref (B + a2)), (3, .int x3)]) cx.1 cx.2.1 dX3_weigh_1 hl (by decide) rfl (fun ls hl => ?_)
  exact wX3_weigh_3 cx hr hlk _ _ _ _ _ h1 h2 _ _ hf _ _ _ wo (lv_sub hl [1, 2, 3, 4, 0] rfl)
set_option maxHeartbeats 1000000 in
set_option maxRecDepth 10000 in
theorem wX3_begin_23 (cx : Cx p s m args c cX3_begin 4 RX3 G) (hr : meth.sig.returnType = none) (hlk : meth.locks = false) : ∀ (n : Nat) (a1 : Nat) (a2 : Nat) (x3 : Int32) (h1 : a1 ∈ rivers) (h2 : a2 ∈ rules) (M : Mem) (q : Mem), fX3_begin_23 n a1 a2 x3 M = some q → ∀ (H : Heap) (locs : List Loc) (ls : Array Slot), Wo Ph G B 205 s M H locs → lv_has ls 4 [(0, .ref (B + 108)), (1, .ref (B + a1)), (2, .ref (B + a2)), (3, .int x3)] → W p l e (rmN (5)) s m args below meth c H locs 0 0 (MQ below (QcV Ph G B 205 q) args s 0 0 (fr B)) (F0 m 23 ls []) := by
  intro n
  induction n with
  | zero =>
    intro a1 a2 x3 h1 h2 M q hf H locs ls wo hl
    have hf : none = some q := hf
    cases hf
  | succ n ih =>
    intro a1 a2 x3 h1 h2 M q hf H locs ls wo hl
    rw [fX3_begin_23] at hf
    refine lv_iload_n cx.1 cx.2.1 dX3_begin_23 rfl (lv_at hl 3 rfl) ?_
    refine lv_aload_n cx.1 cx.2.1 dX3_begin_24 rfl (lv_at hl 0 rfl) ?_
    refine r_getI cx wo ad_108.1 ad_108.2.1 ad_108.2.2 fiX3_37 dX3_begin_25 ?_
    refine lv_icmp_ge (tgt := 57) cx.1 cx.2.1 dX3_begin_28 (by decide) (fun c7 => ?_) (fun c7 => ?_)
    · rw [if_pos c7] at hf
      refine lv_aload_n cx.1 cx.2.1 dX3_begin_57 rfl (lv_at hl 2 rfl) ?_
      refine r_getI cx wo (rul_ok _ h2).1.1 (rul_ok _ h2).1.2.1 (rul_ok _ h2).1.2.2 fiX3_49 dX3_begin_58 ?_
      refine lv_if_ne (tgt := 71) cx.1 cx.2.1 dX3_begin_61 (by decide) (fun c8 => ?_) (fun c8 => ?_)
      · rw [if_neg c8] at hf
        have hq := Option.some.inj hf
        subst hq
        exact r_vret cx wo hr hlk dX3_begin_71
      · rw [if_pos c8] at hf
        refine lv_aload_n cx.1 cx.2.1 dX3_begin_64 rfl (lv_at hl 0 rfl) ?_
        refine lv_aload_n cx.1 cx.2.1 dX3_begin_65 rfl (lv_at hl 1 rfl) ?_
        refine lv_aload_n cx.1 cx.2.1 dX3_begin_66 rfl (lv_at hl 2 rfl) ?_
        refine lv_iconst (v := 0) cx.1 cx.2.1 dX3_begin_67 (by decide) ?_
        obtain ⟨q9, e10, hf⟩ := bd_elim hf
        refine r_Vv (rest := []) cx wo (mX3_weigh l h1 h2 e10) cvX3_55 rfl ad_108.1 ad_108.2.1 ad_108.2.2 rfl rfl hl.1 rfl (Nat.le_of_ble_eq_true rfl) (hR_ok (by decide)) dX3_begin_68 (fun H locs wo => ?_)
        have hq := Option.some.inj hf
        subst hq
        exact r_vret cx wo hr hlk dX3_begin_71
    · rw [if_neg c7] at hf
      refine lv_aload_n cx.1 cx.2.1 dX3_begin_31 rfl (lv_at hl 0 rfl) ?_
      refine r_getR cx wo ad_108.1 ad_108.2.1 ad_108.2.2 fiX3_9 (fn_108_1 wo.2.2.2.1) (by decide) dX3_begin_32 ?_
      refine lv_iload_n cx.1 cx.2.1 dX3_begin_35 rfl (lv_at hl 3 rfl) ?_
      refine lv_aload_n cx.1 cx.2.1 dX3_begin_36 rfl (lv_at hl 1 rfl) ?_
      refine r_getI cx wo (riv_ok _ h1).1.1 (riv_ok _ h1).1.2.1 (riv_ok _ h1).1.2.2 fiX3_46 dX3_begin_37 ?_
      refine lv_ineg cx.1 cx.2.1 dX3_begin_40 ?_
      refine lv_iload_n cx.1 cx.2.1 dX3_begin_41 rfl (lv_at hl 3 rfl) ?_
      refine lv_imul cx.1 cx.2.1 dX3_begin_42 ?_
      obtain ⟨g11, hf⟩ := gd_elim hf
      obtain ⟨M12, e13, hf⟩ := lt_elim hf
      refine r_iast cx wo ad_109.1 ad_109.2.1 ad_109.2.2 (by rw [ln_109]; exact g11) dX3_begin_43 (fun H locs wo => ?_)
      rw [← e13] at wo
      refine lv_aload_n cx.1 cx.2.1 dX3_begin_44 rfl (lv_at hl 0 rfl) ?_
      refine r_getR cx wo ad_108.1 ad_108.2.1 ad_108.2.2 fiX3_15 (fn_108_2 wo.2.2.2.1) (by decide) dX3_begin_45 ?_
      refine lv_iload_n cx.1 cx.2.1 dX3_begin_48 rfl (lv_at hl 3 rfl) ?_
      refine lv_iconst (v := 1) cx.1 cx.2.1 dX3_begin_49 (by decide) ?_
      obtain ⟨g14, hf⟩ := gd_elim hf
      obtain ⟨M15, e16, hf⟩ := lt_elim hf
      refine r_zast cx wo ad_110.1 ad_110.2.1 ad_110.2.2 (by rw [ln_110]; exact g14) dX3_begin_50 (fun H locs wo => ?_)
      rw [← e16] at wo
      obtain ⟨y17, e18, hf⟩ := lt_elim hf
      refine lv_iinc (v := y17) (lv' := [(3, .int y17), (0, .ref (B + 108)), (1, .ref (B + a1)), (2, .ref (B + a2))]) cx.1 cx.2.1 dX3_begin_51 hl (k := 3) rfl (by rw [e18]; rfl) (by decide) rfl (fun ls hl => ?_)
      refine lv_goto (tgt := 23) cx.1 cx.2.1 dX3_begin_54 (by decide) ?_
      exact ih _ _ _ h1 h2 _ _ hf _ _ _ wo (lv_sub hl [1, 2, 3, 0] rfl)
set_option maxHeartbeats 1000000 in
set_option maxRecDepth 10000 in
theorem mX3_begin (l : Launch) {G : GG} {B : Nat} {a1 : Nat} {a2 : Nat} (h1 : a1 ∈ rivers) (h2 : a2 ∈ rules) {M : Mem} {q : Mem} (hf : fX3_begin a1 a2 M = some q) : Met l yX3_begin (wsG yX3_begin cX3_begin 4 none) (rmN (5)) (PcW Ph G B 205 M [.ref (B + 108), .ref (B + a1), .ref (B + a2)]) (QcV Ph G B 205 q) 0 0 (fr B) := by
  refine mk_Met (own := RX3) rfl rfl (Nat.le_of_ble_eq_true rfl) ?_
  intro p e s m below meth c ls cx hr hlk wo hl
  have hl : lv_has ls 4 [(0, .ref (B + 108)), (1, .ref (B + a1)), (2, .ref (B + a2))] := hl
  unfold fX3_begin at hf
  refine lv_aload_n cx.1 cx.2.1 dX3_begin_0 rfl (lv_at hl 0 rfl) ?_
  refine lv_aload_n cx.1 cx.2.1 dX3_begin_1 rfl (lv_at hl 1 rfl) ?_
  refine r_getI cx wo (riv_ok _ h1).1.1 (riv_ok _ h1).1.2.1 (riv_ok _ h1).1.2.2 fiX3_31 dX3_begin_2 ?_
  obtain ⟨M1, e2, hf⟩ := lt_elim hf
  refine r_putI cx wo ad_108.1 ad_108.2.1 ad_108.2.2 fpX3_37 dX3_begin_5 (fun H locs wo => ?_)
  rw [← e2] at wo
  refine lv_aload_n cx.1 cx.2.1 dX3_begin_8 rfl (lv_at hl 0 rfl) ?_
  refine lv_aload_n cx.1 cx.2.1 dX3_begin_9 rfl (lv_at hl 0 rfl) ?_
  refine r_getI cx wo ad_108.1 ad_108.2.1 ad_108.2.2 fiX3_37 dX3_begin_10 ?_
  obtain ⟨M3, e4, hf⟩ := lt_elim hf
  refine r_putI cx wo ad_108.1 ad_108.2.1 ad_108.2.2 fpX3_40 dX3_begin_13 (fun H locs wo => ?_)
  rw [← e4] at wo
  refine lv_aload_n cx.1 cx.2.1 dX3_begin_16 rfl (lv_at hl 0 rfl) ?_
  refine lv_iconst (v := 0) cx.1 cx.2.1 dX3_begin_17 (by decide) ?_
  obtain ⟨M5, e6, hf⟩ := lt_elim hf
  refine r_putI cx wo ad_108.1 ad_108.2.1 ad_108.2.2 fpX3_43 dX3_begin_18 (fun H locs wo => ?_)
  rw [← e6] at wo
  refine lv_iconst (v := 0) cx.1 cx.2.1 dX3_begin_21 (by decide) ?_
  refine lv_istore_n (lv' := [(3, .int 0), (0, .ref (B + 108)), (1, .ref (B + a1)), (2, .ref (B + a2))]) cx.1 cx.2.1 dX3_begin_22 rfl hl (by decide) rfl (fun ls hl => ?_)
  exact wX3_begin_23 cx hr hlk _ _ _ _ h1 h2 _ _ hf _ _ _ wo (lv_sub hl [1, 2, 3, 0] rfl)
set_option maxHeartbeats 1000000 in
set_option maxRecDepth 10000 in
theorem mX3_touch (l : Launch) {G : GG} {B : Nat} {a1 : Nat} {x2 : Int32} {x3 : Int32} {x4 : Int32} (h1 : a1 ∈ rivers) {M : Mem} {q : Mem} (hf : fX3_touch a1 x2 x3 x4 M = some q) : Met l yX3_touch (wsG yX3_touch cX3_touch 5 none) (rmN (2)) (PcW Ph G B 205 M [.ref (B + 108), .ref (B + a1), .int x2, .int x3, .int x4]) (QcV Ph G B 205 q) 0 0 (fr B) := by
  refine mk_Met (own := RX3) rfl rfl (Nat.le_of_ble_eq_true rfl) ?_
  intro p e s m below meth c ls cx hr hlk wo hl
  have hl : lv_has ls 5 [(0, .ref (B + 108)), (1, .ref (B + a1)), (2, .int x2), (3, .int x3), (4, .int x4)] := hl
  unfold fX3_touch at hf
  refine lv_aload_n cx.1 cx.2.1 dX3_touch_0 rfl (lv_at hl 0 rfl) ?_
  refine r_getR cx wo ad_108.1 ad_108.2.1 ad_108.2.2 fiX3_15 (fn_108_2 wo.2.2.2.1) (by decide) dX3_touch_1 ?_
  refine lv_iload_n cx.1 cx.2.1 dX3_touch_4 rfl (lv_at hl 2 rfl) ?_
  refine lv_iconst (v := 0) cx.1 cx.2.1 dX3_touch_5 (by decide) ?_
  obtain ⟨g1, hf⟩ := gd_elim hf
  obtain ⟨M2, e3, hf⟩ := lt_elim hf
  refine r_zast cx wo ad_110.1 ad_110.2.1 ad_110.2.2 (by rw [ln_110]; exact g1) dX3_touch_6 (fun H locs wo => ?_)
  rw [← e3] at wo
  refine lv_aload_n cx.1 cx.2.1 dX3_touch_7 rfl (lv_at hl 0 rfl) ?_
  refine r_getR cx wo ad_108.1 ad_108.2.1 ad_108.2.2 fiX3_15 (fn_108_2 wo.2.2.2.1) (by decide) dX3_touch_8 ?_
  refine lv_iload_n cx.1 cx.2.1 dX3_touch_11 rfl (lv_at hl 3 rfl) ?_
  refine lv_iconst (v := 0) cx.1 cx.2.1 dX3_touch_12 (by decide) ?_
  obtain ⟨g4, hf⟩ := gd_elim hf
  obtain ⟨M5, e6, hf⟩ := lt_elim hf
  refine r_zast cx wo ad_110.1 ad_110.2.1 ad_110.2.2 (by rw [ln_110]; exact g4) dX3_touch_13 (fun H locs wo => ?_)
  rw [← e6] at wo
  refine lv_aload_n cx.1 cx.2.1 dX3_touch_14 rfl (lv_at hl 0 rfl) ?_
  refine lv_dup cx.1 cx.2.1 dX3_touch_15 rfl ?_
  refine r_getI cx wo ad_108.1 ad_108.2.1 ad_108.2.2 fiX3_40 dX3_touch_16 ?_
  refine lv_iconst (v := 2) cx.1 cx.2.1 dX3_touch_19 (by decide) ?_
  refine lv_isub cx.1 cx.2.1 dX3_touch_20 ?_
  obtain ⟨M7, e8, hf⟩ := lt_elim hf
  refine r_putI cx wo ad_108.1 ad_108.2.1 ad_108.2.2 fpX3_40 dX3_touch_21 (fun H locs wo => ?_)
  rw [← e8] at wo
  refine lv_aload_n cx.1 cx.2.1 dX3_touch_24 rfl (lv_at hl 0 rfl) ?_
  refine r_getI cx wo ad_108.1 ad_108.2.1 ad_108.2.2 fiX3_43 dX3_touch_25 ?_
  refine lv_iconst (v := 3) cx.1 cx.2.1 dX3_touch_28 (by decide) ?_
  refine lv_icmp_ge (tgt := 83) cx.1 cx.2.1 dX3_touch_29 (by decide) (fun c9 => ?_) (fun c9 => ?_)
  · rw [if_pos c9] at hf
    have hq := Option.some.inj hf
    subst hq
    exact r_vret cx wo hr hlk dX3_touch_83
  · rw [if_neg c9] at hf
    refine lv_aload_n cx.1 cx.2.1 dX3_touch_32 rfl (lv_at hl 0 rfl) ?_
    refine r_getR cx wo ad_108.1 ad_108.2.1 ad_108.2.2 fiX3_22 (fn_108_6 wo.2.2.2.1) (by decide) dX3_touch_33 ?_
    refine lv_aload_n cx.1 cx.2.1 dX3_touch_36 rfl (lv_at hl 0 rfl) ?_
    refine r_getI cx wo ad_108.1 ad_108.2.1 ad_108.2.2 fiX3_43 dX3_touch_37 ?_
    refine lv_iload cx.1 cx.2.1 dX3_touch_40 (lv_at hl 4 rfl) ?_
    obtain ⟨g10, hf⟩ := gd_elim hf
    obtain ⟨M11, e12, hf⟩ := lt_elim hf
    refine r_iast cx wo ad_112.1 ad_112.2.1 ad_112.2.2 (by rw [ln_112]; exact g10) dX3_touch_42 (fun H locs wo => ?_)
    rw [← e12] at wo
    refine lv_aload_n cx.1 cx.2.1 dX3_touch_43 rfl (lv_at hl 0 rfl) ?_
    refine r_getR cx wo ad_108.1 ad_108.2.1 ad_108.2.2 fiX3_25 (fn_108_7 wo.2.2.2.1) (by decide) dX3_touch_44 ?_
    refine lv_aload_n cx.1 cx.2.1 dX3_touch_47 rfl (lv_at hl 0 rfl) ?_
    refine r_getI cx wo ad_108.1 ad_108.2.1 ad_108.2.2 fiX3_43 dX3_touch_48 ?_
    refine lv_aload_n cx.1 cx.2.1 dX3_touch_51 rfl (lv_at hl 1 rfl) ?_
    refine r_getR cx wo (riv_ok _ h1).1.1 (riv_ok _ h1).1.2.1 (riv_ok _ h1).1.2.2 fiX3_77 (rv_fn4 wo.2.2.2.1 h1) (by omega) dX3_touch_52 ?_
    refine lv_iload_n cx.1 cx.2.1 dX3_touch_55 rfl (lv_at hl 2 rfl) ?_
    obtain ⟨g13, hf⟩ := gd_elim hf
    refine r_iald cx wo (rvA4 h1).1 (rvA4 h1).2.1 (rvA4 h1).2.2 (by rw [(rvL4 h1)]; exact g13) dX3_touch_56 ?_
    obtain ⟨g14, hf⟩ := gd_elim hf
    obtain ⟨M15, e16, hf⟩ := lt_elim hf
    refine r_iast cx wo ad_113.1 ad_113.2.1 ad_113.2.2 (by rw [ln_113]; exact g14) dX3_touch_57 (fun H locs wo => ?_)
    rw [← e16] at wo
    refine lv_aload_n cx.1 cx.2.1 dX3_touch_58 rfl (lv_at hl 0 rfl) ?_
    refine r_getR cx wo ad_108.1 ad_108.2.1 ad_108.2.2 fiX3_28 (fn_108_8 wo.2.2.2.1) (by decide) dX3_touch_59 ?_
    refine lv_aload_n cx.1 cx.2.1 dX3_touch_62 rfl (lv_at hl 0 rfl) ?_
    refine r_getI cx wo ad_108.1 ad_108.2.1 ad_108.2.2 fiX3_43 dX3_touch_63 ?_
    refine lv_aload_n cx.1 cx.2.1 dX3_touch_66 rfl (lv_at hl 1 rfl) ?_
    refine r_getR cx wo (riv_ok _ h1).1.1 (riv_ok _ h1).1.2.1 (riv_ok _ h1).1.2.2 fiX3_77 (rv_fn4 wo.2.2.2.1 h1) (by omega) dX3_touch_67 ?_
    refine lv_iload_n cx.1 cx.2.1 dX3_touch_70 rfl (lv_at hl 3 rfl) ?_
    obtain ⟨g17, hf⟩ := gd_elim hf
    refine r_iald cx wo (rvA4 h1).1 (rvA4 h1).2.1 (rvA4 h1).2.2 (by rw [(rvL4 h1)]; exact g17) dX3_touch_71 ?_
    obtain ⟨g18, hf⟩ := gd_elim hf
    obtain ⟨M19, e20, hf⟩ := lt_elim hf
    refine r_iast cx wo ad_114.1 ad_114.2.1 ad_114.2.2 (by rw [ln_114]; exact g18) dX3_touch_72 (fun H locs wo => ?_)
    rw [← e20] at wo
    refine lv_aload_n cx.1 cx.2.1 dX3_touch_73 rfl (lv_at hl 0 rfl) ?_
    refine lv_dup cx.1 cx.2.1 dX3_touch_74 rfl ?_
    refine r_getI cx wo ad_108.1 ad_108.2.1 ad_108.2.2 fiX3_43 dX3_touch_75 ?_
    refine lv_iconst (v := 1) cx.1 cx.2.1 dX3_touch_78 (by decide) ?_
    refine lv_iadd cx.1 cx.2.1 dX3_touch_79 ?_
    obtain ⟨M21, e22, hf⟩ := lt_elim hf
    refine r_putI cx wo ad_108.1 ad_108.2.1 ad_108.2.2 fpX3_43 dX3_touch_80 (fun H locs wo => ?_)
    rw [← e22] at wo
    have hq := Option.some.inj hf
    subst hq
    exact r_vret cx wo hr hlk dX3_touch_83
set_option maxHeartbeats 1000000 in
set_option maxRecDepth 10000 in
theorem wX3_pull_95 (cx : Cx p s m args c cX3_pull 6 RX3 G) (hr : meth.sig.returnType = none) (hlk : meth.locks = false) {k66 : Nat → Int32 → Int32 → Mem → Option (Mem)} (hk66 : ∀ (a1 : Nat) (x3 : Int32) (x4 : Int32) (h1 : a1 ∈ rivers) (M : Mem) (q : Mem), k66 a1 x3 x4 M = some q → ∀ (H : Heap) (locs : List Loc) (ls : Array Slot), Wo Ph G B 205 s M H locs → lv_has ls 6 [(0, .ref (B + 108)), (1, .ref (B + a1)), (3, .int x3), (4, .int x4)] → W p l e (rmN (5)) s m args below meth c H locs 0 0 (MQ below (QcV Ph G B 205 q) args s 0 0 (fr B)) (F0 m 66 ls [])) : ∀ (a1 : Nat) (x3 : Int32) (x4 : Int32) (s0 : Int32) (h1 : a1 ∈ rivers) (M : Mem) (q : Mem), fX3_pull_95 k66 a1 x3 x4 s0 M = some q → ∀ (H : Heap) (locs : List Loc) (ls : Array Slot), Wo Ph G B 205 s M H locs → lv_has ls 6 [(0, .ref (B + 108)), (1, .ref (B + a1)), (3, .int x3), (4, .int x4)] → W p l e (rmN (5)) s m args below meth c H locs 0 0 (MQ below (QcV Ph G B 205 q) args s 0 0 (fr B)) (F0 m 95 ls [.int s0]) := by
  intro a1 x3 x4 s0 h1 M q hf H locs ls wo hl
  unfold fX3_pull_95 at hf
  refine lv_istore (lv' := [(5, .int s0), (0, .ref (B + 108)), (1, .ref (B + a1)), (3, .int x3), (4, .int x4)]) cx.1 cx.2.1 dX3_pull_95 hl (by decide) rfl (fun ls hl => ?_)
  refine lv_iload cx.1 cx.2.1 dX3_pull_97 (lv_at hl 0 rfl) ?_
  refine lv_if_lt (tgt := 131) cx.1 cx.2.1 dX3_pull_99 (by decide) (fun c24 => ?_) (fun c24 => ?_)
  · rw [if_pos c24] at hf
    obtain ⟨y25, e26, hf⟩ := lt_elim hf
    refine lv_iinc (v := y25) (lv' := [(4, .int y25), (5, .int s0), (0, .ref (B + 108)), (1, .ref (B + a1)), (3, .int x3)]) cx.1 cx.2.1 dX3_pull_131 hl (k := 4) rfl (by rw [e26]; rfl) (by decide) rfl (fun ls hl => ?_)
    refine lv_goto (tgt := 66) cx.1 cx.2.1 dX3_pull_134 (by decide) ?_
    exact hk66 _ _ _ h1 _ _ hf _ _ _ wo (lv_sub hl [2, 3, 4, 0] rfl)
  · rw [if_neg c24] at hf
    refine lv_aload_n cx.1 cx.2.1 dX3_pull_102 rfl (lv_at hl 1 rfl) ?_
    refine r_getR cx wo ad_108.1 ad_108.2.1 ad_108.2.2 fiX3_9 (fn_108_1 wo.2.2.2.1) (by decide) dX3_pull_103 ?_
    refine lv_iload cx.1 cx.2.1 dX3_pull_106 (lv_at hl 4 rfl) ?_
    obtain ⟨g27, hf⟩ := gd_elim hf
    refine r_iald cx wo ad_109.1 ad_109.2.1 ad_109.2.2 (by rw [ln_109]; exact g27) dX3_pull_108 ?_
    refine lv_aload_n cx.1 cx.2.1 dX3_pull_109 rfl (lv_at hl 1 rfl) ?_
    refine r_getR cx wo ad_108.1 ad_108.2.1 ad_108.2.2 fiX3_9 (fn_108_1 wo.2.2.2.1) (by decide) dX3_pull_110 ?_
    refine lv_iload cx.1 cx.2.1 dX3_pull_113 (lv_at hl 0 rfl) ?_
    obtain ⟨g28, hf⟩ := gd_elim hf
    refine r_iald cx wo ad_109.1 ad_109.2.1 ad_109.2.2 (by rw [ln_109]; exact g28) dX3_pull_115 ?_
    refine lv_icmp_lt (tgt := 131) cx.1 cx.2.1 dX3_pull_116 (by decide) (fun c29 => ?_) (fun c29 => ?_)
    · rw [if_pos c29] at hf
      obtain ⟨y30, e31, hf⟩ := lt_elim hf
      refine lv_iinc (v := y30) (lv' := [(4, .int y30), (5, .int s0), (0, .ref (B + 108)), (1, .ref (B + a1)), (3, .int x3)]) cx.1 cx.2.1 dX3_pull_131 hl (k := 4) rfl (by rw [e31]; rfl) (by decide) rfl (fun ls hl => ?_)
      refine lv_goto (tgt := 66) cx.1 cx.2.1 dX3_pull_134 (by decide) ?_
      exact hk66 _ _ _ h1 _ _ hf _ _ _ wo (lv_sub hl [2, 3, 4, 0] rfl)
    · rw [if_neg c29] at hf
      refine lv_aload_n cx.1 cx.2.1 dX3_pull_119 rfl (lv_at hl 1 rfl) ?_
      refine lv_aload_n cx.1 cx.2.1 dX3_pull_120 rfl (lv_at hl 2 rfl) ?_
      refine lv_iload cx.1 cx.2.1 dX3_pull_121 (lv_at hl 4 rfl) ?_
      refine lv_iload cx.1 cx.2.1 dX3_pull_123 (lv_at hl 0 rfl) ?_
      refine lv_iload_n cx.1 cx.2.1 dX3_pull_125 rfl (lv_at hl 3 rfl) ?_
      refine lv_iconst (v := 1) cx.1 cx.2.1 dX3_pull_126 (by decide) ?_
      refine lv_iadd cx.1 cx.2.1 dX3_pull_127 ?_
      obtain ⟨q32, e33, hf⟩ := bd_elim hf
      refine r_Vv (rest := []) cx wo (mX3_touch l h1 e33) cvX3_73 rfl ad_108.1 ad_108.2.1 ad_108.2.2 rfl rfl hl.1 rfl (Nat.le_of_ble_eq_true rfl) (hR_ok (by decide)) dX3_pull_128 (fun H locs wo => ?_)
      obtain ⟨y34, e35, hf⟩ := lt_elim hf
      refine lv_iinc (v := y34) (lv' := [(4, .int y34), (5, .int s0), (0, .ref (B + 108)), (1, .ref (B + a1)), (3, .int x3)]) cx.1 cx.2.1 dX3_pull_131 hl (k := 4) rfl (by rw [e35]; rfl) (by decide) rfl (fun ls hl => ?_)
      refine lv_goto (tgt := 66) cx.1 cx.2.1 dX3_pull_134 (by decide) ?_
      exact hk66 _ _ _ h1 _ _ hf _ _ _ wo (lv_sub hl [2, 3, 4, 0] rfl)
set_option maxHeartbeats 1000000 in
set_option maxRecDepth 10000 in
theorem wX3_pull_66 (cx : Cx p s m args c cX3_pull 6 RX3 G) (hr : meth.sig.returnType = none) (hlk : meth.locks = false) : ∀ (n : Nat) (a1 : Nat) (x3 : Int32) (x4 : Int32) (h1 : a1 ∈ rivers) (M : Mem) (q : Mem), fX3_pull_66 n a1 x3 x4 M = some q → ∀ (H : Heap) (locs : List Loc) (ls : Array Slot), Wo Ph G B 205 s M H locs → lv_has ls 6 [(0, .ref (B + 108)), (1, .ref (B + a1)), (3, .int x3), (4, .int x4)] → W p l e (rmN (5)) s m args below meth c H locs 0 0 (MQ below (QcV Ph G B 205 q) args s 0 0 (fr B)) (F0 m 66 ls []) := by
  intro n
  induction n with
  | zero =>
    intro a1 x3 x4 h1 M q hf H locs ls wo hl
    have hf : none = some q := hf
    cases hf
  | succ n ih =>
    intro a1 x3 x4 h1 M q hf H locs ls wo hl
    rw [fX3_pull_66] at hf
    refine lv_iload cx.1 cx.2.1 dX3_pull_66 (lv_at hl 3 rfl) ?_
    refine lv_aload_n cx.1 cx.2.1 dX3_pull_68 rfl (lv_at hl 0 rfl) ?_
    refine r_getI cx wo ad_108.1 ad_108.2.1 ad_108.2.2 fiX3_37 dX3_pull_69 ?_
    refine lv_icmp_ge (tgt := 137) cx.1 cx.2.1 dX3_pull_72 (by decide) (fun c19 => ?_) (fun c19 => ?_)
    · rw [if_pos c19] at hf
      have hq := Option.some.inj hf
      subst hq
      exact r_vret cx wo hr hlk dX3_pull_137
    · rw [if_neg c19] at hf
      refine lv_aload_n cx.1 cx.2.1 dX3_pull_75 rfl (lv_at hl 0 rfl) ?_
      refine r_getR cx wo ad_108.1 ad_108.2.1 ad_108.2.2 fiX3_15 (fn_108_2 wo.2.2.2.1) (by decide) dX3_pull_76 ?_
      refine lv_iload cx.1 cx.2.1 dX3_pull_79 (lv_at hl 3 rfl) ?_
      obtain ⟨g20, hf⟩ := gd_elim hf
      refine r_zald cx wo ad_110.1 ad_110.2.1 ad_110.2.2 (by rw [ln_110]; exact g20) dX3_pull_81 ?_
      refine lv_if_eq (tgt := 94) cx.1 cx.2.1 dX3_pull_82 (by decide) (fun c21 => ?_) (fun c21 => ?_)
      · rw [if_pos c21] at hf
        refine lv_iconst (v := (-1)) cx.1 cx.2.1 dX3_pull_94 (by decide) ?_
        exact wX3_pull_95 cx hr hlk ih _ _ _ _ h1 _ _ hf _ _ _ wo (lv_sub hl [0, 1, 2, 3] rfl)
      · rw [if_neg c21] at hf
        refine lv_aload_n cx.1 cx.2.1 dX3_pull_85 rfl (lv_at hl 0 rfl) ?_
        refine lv_iload cx.1 cx.2.1 dX3_pull_86 (lv_at hl 3 rfl) ?_
        obtain ⟨q22, e23, hf⟩ := bd_elim hf
        refine r_Vi (rest := []) cx wo (mX3_nextAhead l e23) cvX3_69 rfl ad_108.1 ad_108.2.1 ad_108.2.2 rfl rfl hl.1 rfl (Nat.le_of_ble_eq_true rfl) (hR_ok (by decide)) dX3_pull_88 (fun H locs wo => ?_)
        refine lv_goto (tgt := 95) cx.1 cx.2.1 dX3_pull_91 (by decide) ?_
        exact wX3_pull_95 cx hr hlk ih _ _ _ _ h1 _ _ hf _ _ _ wo (lv_sub hl [0, 1, 2, 3] rfl)
set_option maxHeartbeats 1000000 in
set_option maxRecDepth 10000 in
theorem wX3_pull_17 (cx : Cx p s m args c cX3_pull 6 RX3 G) (hr : meth.sig.returnType = none) (hlk : meth.locks = false) : ∀ (n : Nat) (a1 : Nat) (x3 : Int32) (x4 : Int32) (h1 : a1 ∈ rivers) (M : Mem) (q : Mem), fX3_pull_17 n a1 x3 x4 M = some q → ∀ (H : Heap) (locs : List Loc) (ls : Array Slot), Wo Ph G B 205 s M H locs → lv_has ls 6 [(0, .ref (B + 108)), (1, .ref (B + a1)), (3, .int x3), (4, .int x4)] → W p l e (rmN (5)) s m args below meth c H locs 0 0 (MQ below (QcV Ph G B 205 q) args s 0 0 (fr B)) (F0 m 17 ls []) := by
  intro n
  induction n with
  | zero =>
    intro a1 x3 x4 h1 M q hf H locs ls wo hl
    have hf : none = some q := hf
    cases hf
  | succ n ih =>
    intro a1 x3 x4 h1 M q hf H locs ls wo hl
    rw [fX3_pull_17] at hf
    refine lv_iload cx.1 cx.2.1 dX3_pull_17 (lv_at hl 3 rfl) ?_
    refine lv_aload_n cx.1 cx.2.1 dX3_pull_19 rfl (lv_at hl 0 rfl) ?_
    refine r_getI cx wo ad_108.1 ad_108.2.1 ad_108.2.2 fiX3_37 dX3_pull_20 ?_
    refine lv_icmp_ge (tgt := 63) cx.1 cx.2.1 dX3_pull_23 (by decide) (fun c4 => ?_) (fun c4 => ?_)
    · rw [if_pos c4] at hf
      refine lv_iconst (v := 1) cx.1 cx.2.1 dX3_pull_63 (by decide) ?_
      refine lv_istore (lv' := [(4, .int 1), (0, .ref (B + 108)), (1, .ref (B + a1)), (3, .int x3)]) cx.1 cx.2.1 dX3_pull_64 hl (by decide) rfl (fun ls hl => ?_)
      exact wX3_pull_66 cx hr hlk _ _ _ _ h1 _ _ hf _ _ _ wo (lv_sub hl [1, 2, 3, 0] rfl)
    · rw [if_neg c4] at hf
      refine lv_aload_n cx.1 cx.2.1 dX3_pull_26 rfl (lv_at hl 0 rfl) ?_
      refine r_getR cx wo ad_108.1 ad_108.2.1 ad_108.2.2 fiX3_9 (fn_108_1 wo.2.2.2.1) (by decide) dX3_pull_27 ?_
      refine lv_iload cx.1 cx.2.1 dX3_pull_30 (lv_at hl 3 rfl) ?_
      refine lv_dup2_11 cx.1 cx.2.1 dX3_pull_32 rfl rfl ?_
      obtain ⟨g5, hf⟩ := gd_elim hf
      refine r_iald cx wo ad_109.1 ad_109.2.1 ad_109.2.2 (by rw [ln_109]; exact g5) dX3_pull_33 ?_
      refine lv_aload_n cx.1 cx.2.1 dX3_pull_34 rfl (lv_at hl 0 rfl) ?_
      refine r_getR cx wo ad_108.1 ad_108.2.1 ad_108.2.2 fiX3_15 (fn_108_2 wo.2.2.2.1) (by decide) dX3_pull_35 ?_
      refine lv_iload cx.1 cx.2.1 dX3_pull_38 (lv_at hl 3 rfl) ?_
      obtain ⟨g6, hf⟩ := gd_elim hf
      refine r_zald cx wo ad_110.1 ad_110.2.1 ad_110.2.2 (by rw [ln_110]; exact g6) dX3_pull_40 ?_
      refine lv_if_eq (tgt := 54) cx.1 cx.2.1 dX3_pull_41 (by decide) (fun c7 => ?_) (fun c7 => ?_)
      · rw [if_pos c7] at hf
        refine lv_iconst (v := 0) cx.1 cx.2.1 dX3_pull_54 (by decide) ?_
        refine lv_iadd cx.1 cx.2.1 dX3_pull_55 ?_
        obtain ⟨g8, hf⟩ := gd_elim hf
        obtain ⟨M9, e10, hf⟩ := lt_elim hf
        refine r_iast cx wo ad_109.1 ad_109.2.1 ad_109.2.2 (by rw [ln_109]; exact g8) dX3_pull_56 (fun H locs wo => ?_)
        rw [← e10] at wo
        obtain ⟨y11, e12, hf⟩ := lt_elim hf
        refine lv_iinc (v := y11) (lv' := [(4, .int y11), (0, .ref (B + 108)), (1, .ref (B + a1)), (3, .int x3)]) cx.1 cx.2.1 dX3_pull_57 hl (k := 3) rfl (by rw [e12]; rfl) (by decide) rfl (fun ls hl => ?_)
        refine lv_goto (tgt := 17) cx.1 cx.2.1 dX3_pull_60 (by decide) ?_
        exact ih _ _ _ h1 _ _ hf _ _ _ wo (lv_sub hl [1, 2, 3, 0] rfl)
      · rw [if_neg c7] at hf
        refine lv_aload_n cx.1 cx.2.1 dX3_pull_44 rfl (lv_at hl 0 rfl) ?_
        refine r_getR cx wo ad_108.1 ad_108.2.1 ad_108.2.2 fiX3_19 (fn_108_3 wo.2.2.2.1) (by decide) dX3_pull_45 ?_
        refine lv_iload cx.1 cx.2.1 dX3_pull_48 (lv_at hl 3 rfl) ?_
        obtain ⟨g13, hf⟩ := gd_elim hf
        refine r_iald cx wo ad_111.1 ad_111.2.1 ad_111.2.2 (by rw [ln_111]; exact g13) dX3_pull_50 ?_
        refine lv_goto (tgt := 55) cx.1 cx.2.1 dX3_pull_51 (by decide) ?_
        refine lv_iadd cx.1 cx.2.1 dX3_pull_55 ?_
        obtain ⟨g14, hf⟩ := gd_elim hf
        obtain ⟨M15, e16, hf⟩ := lt_elim hf
        refine r_iast cx wo ad_109.1 ad_109.2.1 ad_109.2.2 (by rw [ln_109]; exact g14) dX3_pull_56 (fun H locs wo => ?_)
        rw [← e16] at wo
        obtain ⟨y17, e18, hf⟩ := lt_elim hf
        refine lv_iinc (v := y17) (lv' := [(4, .int y17), (0, .ref (B + 108)), (1, .ref (B + a1)), (3, .int x3)]) cx.1 cx.2.1 dX3_pull_57 hl (k := 3) rfl (by rw [e18]; rfl) (by decide) rfl (fun ls hl => ?_)
        refine lv_goto (tgt := 17) cx.1 cx.2.1 dX3_pull_60 (by decide) ?_
        exact ih _ _ _ h1 _ _ hf _ _ _ wo (lv_sub hl [1, 2, 3, 0] rfl)
set_option maxHeartbeats 1000000 in
set_option maxRecDepth 10000 in
theorem mX3_pull (l : Launch) {G : GG} {B : Nat} {a1 : Nat} {a2 : Nat} {x3 : Int32} (h1 : a1 ∈ rivers) (h2 : a2 ∈ rules) {M : Mem} {q : Mem} (hf : fX3_pull a1 a2 x3 M = some q) : Met l yX3_pull (wsG yX3_pull cX3_pull 6 none) (rmN (5)) (PcW Ph G B 205 M [.ref (B + 108), .ref (B + a1), .ref (B + a2), .int x3]) (QcV Ph G B 205 q) 0 0 (fr B) := by
  refine mk_Met (own := RX3) rfl rfl (Nat.le_of_ble_eq_true rfl) ?_
  intro p e s m below meth c ls cx hr hlk wo hl
  have hl : lv_has ls 6 [(0, .ref (B + 108)), (1, .ref (B + a1)), (2, .ref (B + a2)), (3, .int x3)] := hl
  unfold fX3_pull at hf
  refine lv_aload_n cx.1 cx.2.1 dX3_pull_0 rfl (lv_at hl 2 rfl) ?_
  refine r_getI cx wo (rul_ok _ h2).1.1 (rul_ok _ h2).1.2.1 (rul_ok _ h2).1.2.2 fiX3_49 dX3_pull_1 ?_
  refine lv_if_eq (tgt := 14) cx.1 cx.2.1 dX3_pull_4 (by decide) (fun c1 => ?_) (fun c1 => ?_)
  · rw [if_pos c1] at hf
    refine lv_iconst (v := 0) cx.1 cx.2.1 dX3_pull_14 (by decide) ?_
    refine lv_istore (lv' := [(4, .int 0), (0, .ref (B + 108)), (1, .ref (B + a1)), (2, .ref (B + a2)), (3, .int x3)]) cx.1 cx.2.1 dX3_pull_15 hl (by decide) rfl (fun ls hl => ?_)
    exact wX3_pull_17 cx hr hlk _ _ _ _ h1 _ _ hf _ _ _ wo (lv_sub hl [1, 2, 4, 0] rfl)
  · rw [if_neg c1] at hf
    refine lv_aload_n cx.1 cx.2.1 dX3_pull_7 rfl (lv_at hl 0 rfl) ?_
    refine lv_aload_n cx.1 cx.2.1 dX3_pull_8 rfl (lv_at hl 1 rfl) ?_
    refine lv_aload_n cx.1 cx.2.1 dX3_pull_9 rfl (lv_at hl 2 rfl) ?_
    refine lv_iload_n cx.1 cx.2.1 dX3_pull_10 rfl (lv_at hl 3 rfl) ?_
    obtain ⟨q2, e3, hf⟩ := bd_elim hf
    refine r_Vv (rest := []) cx wo (mX3_weigh l h1 h2 e3) cvX3_55 rfl ad_108.1 ad_108.2.1 ad_108.2.2 rfl rfl hl.1 rfl (Nat.le_of_ble_eq_true rfl) (hR_ok (by decide)) dX3_pull_11 (fun H locs wo => ?_)
    refine lv_iconst (v := 0) cx.1 cx.2.1 dX3_pull_14 (by decide) ?_
    refine lv_istore (lv' := [(4, .int 0), (0, .ref (B + 108)), (1, .ref (B + a1)), (2, .ref (B + a2)), (3, .int x3)]) cx.1 cx.2.1 dX3_pull_15 hl (by decide) rfl (fun ls hl => ?_)
    exact wX3_pull_17 cx hr hlk _ _ _ _ h1 _ _ hf _ _ _ wo (lv_sub hl [1, 2, 4, 0] rfl)
set_option maxHeartbeats 1000000 in
set_option maxRecDepth 10000 in
theorem wX3_run_8 (cx : Cx p s m args c cX3_run 4 RX3 G) (hr : meth.sig.returnType = none) (hlk : meth.locks = false) : ∀ (n : Nat) (a1 : Nat) (a2 : Nat) (x3 : Int32) (h1 : a1 ∈ rivers) (h2 : a2 ∈ rules) (M : Mem) (q : Mem), fX3_run_8 n a1 a2 x3 M = some q → ∀ (H : Heap) (locs : List Loc) (ls : Array Slot), Wo Ph G B 205 s M H locs → lv_has ls 4 [(0, .ref (B + 108)), (1, .ref (B + a1)), (2, .ref (B + a2)), (3, .int x3)] → W p l e (rmN (6)) s m args below meth c H locs 0 0 (MQ below (QcV Ph G B 205 q) args s 0 0 (fr B)) (F0 m 8 ls []) := by
  intro n
  induction n with
  | zero =>
    intro a1 a2 x3 h1 h2 M q hf H locs ls wo hl
    have hf : none = some q := hf
    cases hf
  | succ n ih =>
    intro a1 a2 x3 h1 h2 M q hf H locs ls wo hl
    rw [fX3_run_8] at hf
    refine lv_iload_n cx.1 cx.2.1 dX3_run_8 rfl (lv_at hl 3 rfl) ?_
    refine lv_aload_n cx.1 cx.2.1 dX3_run_9 rfl (lv_at hl 1 rfl) ?_
    refine r_getI cx wo (riv_ok _ h1).1.1 (riv_ok _ h1).1.2.1 (riv_ok _ h1).1.2.2 fiX3_63 dX3_run_10 ?_
    refine lv_icmp_ge (tgt := 37) cx.1 cx.2.1 dX3_run_13 (by decide) (fun c3 => ?_) (fun c3 => ?_)
    · rw [if_pos c3] at hf
      have hq := Option.some.inj hf
      subst hq
      exact r_vret cx wo hr hlk dX3_run_37
    · rw [if_neg c3] at hf
      refine lv_aload_n cx.1 cx.2.1 dX3_run_16 rfl (lv_at hl 0 rfl) ?_
      refine r_getI cx wo ad_108.1 ad_108.2.1 ad_108.2.2 fiX3_40 dX3_run_17 ?_
      refine lv_iconst (v := 1) cx.1 cx.2.1 dX3_run_20 (by decide) ?_
      refine lv_icmp_le (tgt := 37) cx.1 cx.2.1 dX3_run_21 (by decide) (fun c4 => ?_) (fun c4 => ?_)
      · rw [if_pos c4] at hf
        have hq := Option.some.inj hf
        subst hq
        exact r_vret cx wo hr hlk dX3_run_37
      · rw [if_neg c4] at hf
        refine lv_aload_n cx.1 cx.2.1 dX3_run_24 rfl (lv_at hl 0 rfl) ?_
        refine lv_aload_n cx.1 cx.2.1 dX3_run_25 rfl (lv_at hl 1 rfl) ?_
        refine lv_aload_n cx.1 cx.2.1 dX3_run_26 rfl (lv_at hl 2 rfl) ?_
        refine lv_iload_n cx.1 cx.2.1 dX3_run_27 rfl (lv_at hl 3 rfl) ?_
        obtain ⟨q5, e6, hf⟩ := bd_elim hf
        refine r_Vv (rest := []) cx wo (mX3_pull l h1 h2 e6) cvX3_66 rfl ad_108.1 ad_108.2.1 ad_108.2.2 rfl rfl hl.1 rfl (Nat.le_of_ble_eq_true rfl) (hR_ok (by decide)) dX3_run_28 (fun H locs wo => ?_)
        obtain ⟨y7, e8, hf⟩ := lt_elim hf
        refine lv_iinc (v := y7) (lv' := [(3, .int y7), (0, .ref (B + 108)), (1, .ref (B + a1)), (2, .ref (B + a2))]) cx.1 cx.2.1 dX3_run_31 hl (k := 3) rfl (by rw [e8]; rfl) (by decide) rfl (fun ls hl => ?_)
        refine lv_goto (tgt := 8) cx.1 cx.2.1 dX3_run_34 (by decide) ?_
        exact ih _ _ _ h1 h2 _ _ hf _ _ _ wo (lv_sub hl [1, 2, 3, 0] rfl)
set_option maxHeartbeats 1000000 in
set_option maxRecDepth 10000 in
theorem mX3_run (l : Launch) {G : GG} {B : Nat} {a1 : Nat} {a2 : Nat} (h1 : a1 ∈ rivers) (h2 : a2 ∈ rules) {M : Mem} {q : Mem} (hf : fX3_run a1 a2 M = some q) : Met l yX3_run (wsG yX3_run cX3_run 4 none) (rmN (6)) (PcW Ph G B 205 M [.ref (B + 108), .ref (B + a1), .ref (B + a2)]) (QcV Ph G B 205 q) 0 0 (fr B) := by
  refine mk_Met (own := RX3) rfl rfl (Nat.le_of_ble_eq_true rfl) ?_
  intro p e s m below meth c ls cx hr hlk wo hl
  have hl : lv_has ls 4 [(0, .ref (B + 108)), (1, .ref (B + a1)), (2, .ref (B + a2))] := hl
  unfold fX3_run at hf
  refine lv_aload_n cx.1 cx.2.1 dX3_run_0 rfl (lv_at hl 0 rfl) ?_
  refine lv_aload_n cx.1 cx.2.1 dX3_run_1 rfl (lv_at hl 1 rfl) ?_
  refine lv_aload_n cx.1 cx.2.1 dX3_run_2 rfl (lv_at hl 2 rfl) ?_
  obtain ⟨q1, e2, hf⟩ := bd_elim hf
  refine r_Vv (rest := []) cx wo (mX3_begin l h1 h2 e2) cvX3_59 rfl ad_108.1 ad_108.2.1 ad_108.2.2 rfl rfl hl.1 rfl (Nat.le_of_ble_eq_true rfl) (hR_ok (by decide)) dX3_run_3 (fun H locs wo => ?_)
  refine lv_iconst (v := 0) cx.1 cx.2.1 dX3_run_6 (by decide) ?_
  refine lv_istore_n (lv' := [(3, .int 0), (0, .ref (B + 108)), (1, .ref (B + a1)), (2, .ref (B + a2))]) cx.1 cx.2.1 dX3_run_7 rfl hl (by decide) rfl (fun ls hl => ?_)
  exact wX3_run_8 cx hr hlk _ _ _ _ h1 h2 _ _ hf _ _ _ wo (lv_sub hl [1, 2, 3, 0] rfl)
set_option maxHeartbeats 1000000 in
set_option maxRecDepth 10000 in
theorem wX3_settle_37 (cx : Cx p s m args c cX3_settle 5 RX3 G) (hr : meth.sig.returnType = none) (hlk : meth.locks = false) {k2 : Nat → Int32 → Mem → Option (Mem)} (hk2 : ∀ (a1 : Nat) (x2 : Int32) (h1 : a1 ∈ rivers) (M : Mem) (q : Mem), k2 a1 x2 M = some q → ∀ (H : Heap) (locs : List Loc) (ls : Array Slot), Wo Ph G B 205 s M H locs → lv_has ls 5 [(0, .ref (B + 108)), (1, .ref (B + a1)), (2, .int x2)] → W p l e (rmN (5)) s m args below meth c H locs 0 0 (MQ below (QcV Ph G B 205 q) args s 0 0 (fr B)) (F0 m 2 ls [])) : ∀ (a1 : Nat) (x2 : Int32) (x3 : Int32) (s0 : Int32) (s1 : Int32) (h1 : a1 ∈ rivers) (M : Mem) (q : Mem), fX3_settle_37 k2 a1 x2 x3 s0 s1 M = some q → ∀ (H : Heap) (locs : List Loc) (ls : Array Slot), Wo Ph G B 205 s M H locs → lv_has ls 5 [(0, .ref (B + 108)), (1, .ref (B + a1)), (2, .int x2), (3, .int x3)] → W p l e (rmN (5)) s m args below meth c H locs 0 0 (MQ below (QcV Ph G B 205 q) args s 0 0 (fr B)) (F0 m 37 ls [.int s0, .int s1]) := by
  intro a1 x2 x3 s0 s1 h1 M q hf H locs ls wo hl
  unfold fX3_settle_37 at hf
  refine lv_iadd cx.1 cx.2.1 dX3_settle_37 ?_
  obtain ⟨y19, e20, hf⟩ := lt_elim hf
  refine r_topi e20 ?_
  refine lv_istore (lv' := [(4, .int y19), (0, .ref (B + 108)), (1, .ref (B + a1)), (2, .int x2), (3, .int x3)]) cx.1 cx.2.1 dX3_settle_38 hl (by decide) rfl (fun ls hl => ?_)
  refine lv_aload_n cx.1 cx.2.1 dX3_settle_40 rfl (lv_at hl 2 rfl) ?_
  refine r_getR cx wo (riv_ok _ h1).1.1 (riv_ok _ h1).1.2.1 (riv_ok _ h1).1.2.2 fiX3_89 (rv_fn2 wo.2.2.2.1 h1) (by omega) dX3_settle_41 ?_
  refine lv_iload_n cx.1 cx.2.1 dX3_settle_44 rfl (lv_at hl 4 rfl) ?_
  refine lv_iconst (v := 0) cx.1 cx.2.1 dX3_settle_45 (by decide) ?_
  refine lv_bipush (v := 9) cx.1 cx.2.1 dX3_settle_46 (by decide) ?_
  refine lv_iload cx.1 cx.2.1 dX3_settle_48 (lv_at hl 0 rfl) ?_
  refine r_mmin cx hl.1 mmX3_98 (by decide) (Nat.le_of_ble_eq_true rfl) (Nat.zero_le _) (Nat.zero_le _) dX3_settle_50 ?_
  refine r_mmax cx hl.1 mmX3_104 (by decide) (Nat.le_of_ble_eq_true rfl) (Nat.zero_le _) (Nat.zero_le _) dX3_settle_53 ?_
  obtain ⟨g21, hf⟩ := gd_elim hf
  obtain ⟨M22, e23, hf⟩ := lt_elim hf
  refine r_iast cx wo (rvA2 h1).1 (rvA2 h1).2.1 (rvA2 h1).2.2 (by rw [(rvL2 h1)]; exact g21) dX3_settle_56 (fun H locs wo => ?_)
  rw [← e23] at wo
  obtain ⟨y24, e25, hf⟩ := lt_elim hf
  refine lv_iinc (v := y24) (lv' := [(2, .int y24), (4, .int y19), (0, .ref (B + 108)), (1, .ref (B + a1)), (3, .int x3)]) cx.1 cx.2.1 dX3_settle_57 hl (k := 3) rfl (by rw [e25]; rfl) (by decide) rfl (fun ls hl => ?_)
  refine lv_goto (tgt := 2) cx.1 cx.2.1 dX3_settle_60 (by decide) ?_
  exact hk2 _ _ h1 _ _ hf _ _ _ wo (lv_sub hl [2, 3, 0] rfl)
set_option maxHeartbeats 1000000 in
set_option maxRecDepth 10000 in
theorem wX3_settle_65 (cx : Cx p s m args c cX3_settle 5 RX3 G) (hr : meth.sig.returnType = none) (hlk : meth.locks = false) : ∀ (n : Nat) (a1 : Nat) (x2 : Int32) (h1 : a1 ∈ rivers) (M : Mem) (q : Mem), fX3_settle_65 n a1 x2 M = some q → ∀ (H : Heap) (locs : List Loc) (ls : Array Slot), Wo Ph G B 205 s M H locs → lv_has ls 5 [(0, .ref (B + 108)), (1, .ref (B + a1)), (2, .int x2)] → W p l e (rmN (5)) s m args below meth c H locs 0 0 (MQ below (QcV Ph G B 205 q) args s 0 0 (fr B)) (F0 m 65 ls []) := by
  intro n
  induction n with
  | zero =>
    intro a1 x2 h1 M q hf H locs ls wo hl
    have hf : none = some q := hf
    cases hf
  | succ n ih =>
    intro a1 x2 h1 M q hf H locs ls wo hl
    rw [fX3_settle_65] at hf
    refine lv_iload_n cx.1 cx.2.1 dX3_settle_65 rfl (lv_at hl 2 rfl) ?_
    refine lv_aload_n cx.1 cx.2.1 dX3_settle_66 rfl (lv_at hl 0 rfl) ?_
    refine r_getI cx wo ad_108.1 ad_108.2.1 ad_108.2.2 fiX3_43 dX3_settle_67 ?_
    refine lv_icmp_ge (tgt := 95) cx.1 cx.2.1 dX3_settle_70 (by decide) (fun c8 => ?_) (fun c8 => ?_)
    · rw [if_pos c8] at hf
      refine lv_aload_n cx.1 cx.2.1 dX3_settle_95 rfl (lv_at hl 1 rfl) ?_
      refine lv_sipush (v := 9999) cx.1 cx.2.1 dX3_settle_96 (by decide) ?_
      refine lv_aload_n cx.1 cx.2.1 dX3_settle_99 rfl (lv_at hl 1 rfl) ?_
      refine r_getI cx wo (riv_ok _ h1).1.1 (riv_ok _ h1).1.2.1 (riv_ok _ h1).1.2.2 fiX3_111 dX3_settle_100 ?_
      refine lv_aload_n cx.1 cx.2.1 dX3_settle_103 rfl (lv_at hl 0 rfl) ?_
      refine r_getI cx wo ad_108.1 ad_108.2.1 ad_108.2.2 fiX3_43 dX3_settle_104 ?_
      refine lv_iadd cx.1 cx.2.1 dX3_settle_107 ?_
      refine r_mmin cx hl.1 mmX3_98 (by decide) (Nat.le_of_ble_eq_true rfl) (Nat.zero_le _) (Nat.zero_le _) dX3_settle_108 ?_
      obtain ⟨M9, e10, hf⟩ := lt_elim hf
      refine r_putI cx wo (riv_ok _ h1).1.1 (riv_ok _ h1).1.2.1 (riv_ok _ h1).1.2.2 fpX3_111 dX3_settle_111 (fun H locs wo => ?_)
      rw [← e10] at wo
      refine lv_aload_n cx.1 cx.2.1 dX3_settle_114 rfl (lv_at hl 1 rfl) ?_
      refine lv_dup cx.1 cx.2.1 dX3_settle_115 rfl ?_
      refine r_getI cx wo (riv_ok _ h1).1.1 (riv_ok _ h1).1.2.1 (riv_ok _ h1).1.2.2 fiX3_92 dX3_settle_116 ?_
      refine lv_iconst (v := 1) cx.1 cx.2.1 dX3_settle_119 (by decide) ?_
      refine lv_iadd cx.1 cx.2.1 dX3_settle_120 ?_
      obtain ⟨M11, e12, hf⟩ := lt_elim hf
      refine r_putI cx wo (riv_ok _ h1).1.1 (riv_ok _ h1).1.2.1 (riv_ok _ h1).1.2.2 fpX3_92 dX3_settle_121 (fun H locs wo => ?_)
      rw [← e12] at wo
      have hq := Option.some.inj hf
      subst hq
      exact r_vret cx wo hr hlk dX3_settle_124
    · rw [if_neg c8] at hf
      refine lv_aload_n cx.1 cx.2.1 dX3_settle_73 rfl (lv_at hl 1 rfl) ?_
      refine lv_aload_n cx.1 cx.2.1 dX3_settle_74 rfl (lv_at hl 0 rfl) ?_
      refine r_getR cx wo ad_108.1 ad_108.2.1 ad_108.2.2 fiX3_25 (fn_108_7 wo.2.2.2.1) (by decide) dX3_settle_75 ?_
      refine lv_iload_n cx.1 cx.2.1 dX3_settle_78 rfl (lv_at hl 2 rfl) ?_
      obtain ⟨g13, hf⟩ := gd_elim hf
      refine r_iald cx wo ad_113.1 ad_113.2.1 ad_113.2.2 (by rw [ln_113]; exact g13) dX3_settle_79 ?_
      refine lv_aload_n cx.1 cx.2.1 dX3_settle_80 rfl (lv_at hl 0 rfl) ?_
      refine r_getR cx wo ad_108.1 ad_108.2.1 ad_108.2.2 fiX3_28 (fn_108_8 wo.2.2.2.1) (by decide) dX3_settle_81 ?_
      refine lv_iload_n cx.1 cx.2.1 dX3_settle_84 rfl (lv_at hl 2 rfl) ?_
      obtain ⟨g14, hf⟩ := gd_elim hf
      refine r_iald cx wo ad_114.1 ad_114.2.1 ad_114.2.2 (by rw [ln_114]; exact g14) dX3_settle_85 ?_
      obtain ⟨q15, e16, hf⟩ := bd_elim hf
      refine r_Vv (rest := []) cx wo (mX4_changePlaces l h1 e16) cvX3_107 rfl (riv_ok _ h1).1.1 (riv_ok _ h1).1.2.1 (riv_ok _ h1).1.2.2 rfl rfl hl.1 rfl (Nat.le_of_ble_eq_true rfl) (hR_ok (by decide)) dX3_settle_86 (fun H locs wo => ?_)
      obtain ⟨y17, e18, hf⟩ := lt_elim hf
      refine lv_iinc (v := y17) (lv' := [(2, .int y17), (0, .ref (B + 108)), (1, .ref (B + a1))]) cx.1 cx.2.1 dX3_settle_89 hl (k := 2) rfl (by rw [e18]; rfl) (by decide) rfl (fun ls hl => ?_)
      refine lv_goto (tgt := 65) cx.1 cx.2.1 dX3_settle_92 (by decide) ?_
      exact ih _ _ h1 _ _ hf _ _ _ wo (lv_sub hl [1, 2, 0] rfl)
set_option maxHeartbeats 1000000 in
set_option maxRecDepth 10000 in
theorem wX3_settle_2 (cx : Cx p s m args c cX3_settle 5 RX3 G) (hr : meth.sig.returnType = none) (hlk : meth.locks = false) : ∀ (n : Nat) (a1 : Nat) (x2 : Int32) (h1 : a1 ∈ rivers) (M : Mem) (q : Mem), fX3_settle_2 n a1 x2 M = some q → ∀ (H : Heap) (locs : List Loc) (ls : Array Slot), Wo Ph G B 205 s M H locs → lv_has ls 5 [(0, .ref (B + 108)), (1, .ref (B + a1)), (2, .int x2)] → W p l e (rmN (5)) s m args below meth c H locs 0 0 (MQ below (QcV Ph G B 205 q) args s 0 0 (fr B)) (F0 m 2 ls []) := by
  intro n
  induction n with
  | zero =>
    intro a1 x2 h1 M q hf H locs ls wo hl
    have hf : none = some q := hf
    cases hf
  | succ n ih =>
    intro a1 x2 h1 M q hf H locs ls wo hl
    rw [fX3_settle_2] at hf
    refine lv_iload_n cx.1 cx.2.1 dX3_settle_2 rfl (lv_at hl 2 rfl) ?_
    refine lv_aload_n cx.1 cx.2.1 dX3_settle_3 rfl (lv_at hl 0 rfl) ?_
    refine r_getI cx wo ad_108.1 ad_108.2.1 ad_108.2.2 fiX3_37 dX3_settle_4 ?_
    refine lv_icmp_ge (tgt := 63) cx.1 cx.2.1 dX3_settle_7 (by decide) (fun c1 => ?_) (fun c1 => ?_)
    · rw [if_pos c1] at hf
      refine lv_iconst (v := 0) cx.1 cx.2.1 dX3_settle_63 (by decide) ?_
      refine lv_istore_n (lv' := [(2, .int 0), (0, .ref (B + 108)), (1, .ref (B + a1))]) cx.1 cx.2.1 dX3_settle_64 rfl hl (by decide) rfl (fun ls hl => ?_)
      exact wX3_settle_65 cx hr hlk _ _ _ h1 _ _ hf _ _ _ wo (lv_sub hl [1, 2, 0] rfl)
    · rw [if_neg c1] at hf
      refine lv_aload_n cx.1 cx.2.1 dX3_settle_10 rfl (lv_at hl 1 rfl) ?_
      refine r_getR cx wo (riv_ok _ h1).1.1 (riv_ok _ h1).1.2.1 (riv_ok _ h1).1.2.2 fiX3_77 (rv_fn4 wo.2.2.2.1 h1) (by omega) dX3_settle_11 ?_
      refine lv_iload_n cx.1 cx.2.1 dX3_settle_14 rfl (lv_at hl 2 rfl) ?_
      obtain ⟨g2, hf⟩ := gd_elim hf
      refine r_iald cx wo (rvA4 h1).1 (rvA4 h1).2.1 (rvA4 h1).2.2 (by rw [(rvL4 h1)]; exact g2) dX3_settle_15 ?_
      obtain ⟨y3, e4, hf⟩ := lt_elim hf
      refine r_topi e4 ?_
      refine lv_istore_n (lv' := [(3, .int y3), (0, .ref (B + 108)), (1, .ref (B + a1)), (2, .int x2)]) cx.1 cx.2.1 dX3_settle_16 rfl hl (by decide) rfl (fun ls hl => ?_)
      refine lv_aload_n cx.1 cx.2.1 dX3_settle_17 rfl (lv_at hl 2 rfl) ?_
      refine r_getR cx wo (riv_ok _ h1).1.1 (riv_ok _ h1).1.2.1 (riv_ok _ h1).1.2.2 fiX3_89 (rv_fn2 wo.2.2.2.1 h1) (by omega) dX3_settle_18 ?_
      refine lv_iload_n cx.1 cx.2.1 dX3_settle_21 rfl (lv_at hl 0 rfl) ?_
      obtain ⟨g5, hf⟩ := gd_elim hf
      refine r_iald cx wo (rvA2 h1).1 (rvA2 h1).2.1 (rvA2 h1).2.2 (by rw [(rvL2 h1)]; exact g5) dX3_settle_22 ?_
      refine lv_aload_n cx.1 cx.2.1 dX3_settle_23 rfl (lv_at hl 1 rfl) ?_
      refine r_getR cx wo ad_108.1 ad_108.2.1 ad_108.2.2 fiX3_15 (fn_108_2 wo.2.2.2.1) (by decide) dX3_settle_24 ?_
      refine lv_iload_n cx.1 cx.2.1 dX3_settle_27 rfl (lv_at hl 3 rfl) ?_
      obtain ⟨g6, hf⟩ := gd_elim hf
      refine r_zald cx wo ad_110.1 ad_110.2.1 ad_110.2.2 (by rw [ln_110]; exact g6) dX3_settle_28 ?_
      refine lv_if_eq (tgt := 36) cx.1 cx.2.1 dX3_settle_29 (by decide) (fun c7 => ?_) (fun c7 => ?_)
      · rw [if_pos c7] at hf
        refine lv_iconst (v := (-1)) cx.1 cx.2.1 dX3_settle_36 (by decide) ?_
        exact wX3_settle_37 cx hr hlk ih _ _ _ _ _ h1 _ _ hf _ _ _ wo (lv_sub hl [1, 2, 3, 0] rfl)
      · rw [if_neg c7] at hf
        refine lv_iconst (v := 1) cx.1 cx.2.1 dX3_settle_32 (by decide) ?_
        refine lv_goto (tgt := 37) cx.1 cx.2.1 dX3_settle_33 (by decide) ?_
        exact wX3_settle_37 cx hr hlk ih _ _ _ _ _ h1 _ _ hf _ _ _ wo (lv_sub hl [1, 2, 3, 0] rfl)
set_option maxHeartbeats 1000000 in
set_option maxRecDepth 10000 in
theorem mX3_settle (l : Launch) {G : GG} {B : Nat} {a1 : Nat} (h1 : a1 ∈ rivers) {M : Mem} {q : Mem} (hf : fX3_settle a1 M = some q) : Met l yX3_settle (wsG yX3_settle cX3_settle 5 none) (rmN (5)) (PcW Ph G B 205 M [.ref (B + 108), .ref (B + a1)]) (QcV Ph G B 205 q) 0 0 (fr B) := by
  refine mk_Met (own := RX3) rfl rfl (Nat.le_of_ble_eq_true rfl) ?_
  intro p e s m below meth c ls cx hr hlk wo hl
  have hl : lv_has ls 5 [(0, .ref (B + 108)), (1, .ref (B + a1))] := hl
  unfold fX3_settle at hf
  refine lv_iconst (v := 0) cx.1 cx.2.1 dX3_settle_0 (by decide) ?_
  refine lv_istore_n (lv' := [(2, .int 0), (0, .ref (B + 108)), (1, .ref (B + a1))]) cx.1 cx.2.1 dX3_settle_1 rfl hl (by decide) rfl (fun ls hl => ?_)
  exact wX3_settle_2 cx hr hlk _ _ _ h1 _ _ hf _ _ _ wo (lv_sub hl [1, 2, 0] rfl)
set_option maxHeartbeats 1000000 in
set_option maxRecDepth 10000 in
theorem wX3_pairOf_2 (cx : Cx p s m args c cX3_pairOf 4 RX3 G) (hr : meth.sig.returnType = (some .int)) (hlk : meth.locks = false) : ∀ (n : Nat) (a1 : Nat) (x2 : Int32) (x3 : Int32) (h1 : isI a1) (M : Mem) (q : Int32 × Mem), fX3_pairOf_2 n a1 x2 x3 M = some q → ∀ (H : Heap) (locs : List Loc) (ls : Array Slot), Wo Ph G B 205 s M H locs → lv_has ls 4 [(0, .ref (B + 108)), (1, .ref (B + a1)), (2, .int x2), (3, .int x3)] → W p l e (rmN (2)) s m args below meth c H locs 0 0 (MQ below (QcI Ph G B 205 q.1 q.2) args s 0 0 (fr B)) (F0 m 2 ls []) := by
  intro n
  induction n with
  | zero =>
    intro a1 x2 x3 h1 M q hf H locs ls wo hl
    have hf : none = some q := hf
    cases hf
  | succ n ih =>
    intro a1 x2 x3 h1 M q hf H locs ls wo hl
    rw [fX3_pairOf_2] at hf
    refine lv_iload_n cx.1 cx.2.1 dX3_pairOf_2 rfl (lv_at hl 3 rfl) ?_
    refine lv_aload_n cx.1 cx.2.1 dX3_pairOf_3 rfl (lv_at hl 0 rfl) ?_
    refine r_getI cx wo ad_108.1 ad_108.2.1 ad_108.2.2 fiX3_43 dX3_pairOf_4 ?_
    refine lv_icmp_ge (tgt := 25) cx.1 cx.2.1 dX3_pairOf_7 (by decide) (fun c1 => ?_) (fun c1 => ?_)
    · rw [if_pos c1] at hf
      refine lv_iconst (v := (-1)) cx.1 cx.2.1 dX3_pairOf_25 (by decide) ?_
      have hq := Option.some.inj hf
      subst hq
      exact r_iret cx wo hr hlk dX3_pairOf_26
    · rw [if_neg c1] at hf
      refine lv_aload_n cx.1 cx.2.1 dX3_pairOf_10 rfl (lv_at hl 1 rfl) ?_
      refine lv_iload_n cx.1 cx.2.1 dX3_pairOf_11 rfl (lv_at hl 3 rfl) ?_
      obtain ⟨g2, hf⟩ := gd_elim hf
      refine r_iald cx wo (h1).1 (h1).2.1 (h1).2.2 g2 dX3_pairOf_12 ?_
      refine lv_iload_n cx.1 cx.2.1 dX3_pairOf_13 rfl (lv_at hl 2 rfl) ?_
      refine lv_icmp_ne (tgt := 19) cx.1 cx.2.1 dX3_pairOf_14 (by decide) (fun c3 => ?_) (fun c3 => ?_)
      · rw [if_neg c3] at hf
        obtain ⟨y4, e5, hf⟩ := lt_elim hf
        refine lv_iinc (v := y4) (lv' := [(3, .int y4), (0, .ref (B + 108)), (1, .ref (B + a1)), (2, .int x2)]) cx.1 cx.2.1 dX3_pairOf_19 hl (k := 3) rfl (by rw [e5]; rfl) (by decide) rfl (fun ls hl => ?_)
        refine lv_goto (tgt := 2) cx.1 cx.2.1 dX3_pairOf_22 (by decide) ?_
        exact ih _ _ _ h1 _ _ hf _ _ _ wo (lv_sub hl [1, 2, 3, 0] rfl)
      · rw [if_pos c3] at hf
        refine lv_iload_n cx.1 cx.2.1 dX3_pairOf_17 rfl (lv_at hl 3 rfl) ?_
        have hq := Option.some.inj hf
        subst hq
        exact r_iret cx wo hr hlk dX3_pairOf_18
set_option maxHeartbeats 1000000 in
set_option maxRecDepth 10000 in
theorem mX3_pairOf (l : Launch) {G : GG} {B : Nat} {a1 : Nat} {x2 : Int32} (h1 : isI a1) {M : Mem} {q : Int32 × Mem} (hf : fX3_pairOf a1 x2 M = some q) : Met l yX3_pairOf (wsG yX3_pairOf cX3_pairOf 4 (some .int)) (rmN (2)) (PcW Ph G B 205 M [.ref (B + 108), .ref (B + a1), .int x2]) (QcI Ph G B 205 q.1 q.2) 0 0 (fr B) := by
  refine mk_Met (own := RX3) rfl rfl (Nat.le_of_ble_eq_true rfl) ?_
  intro p e s m below meth c ls cx hr hlk wo hl
  have hl : lv_has ls 4 [(0, .ref (B + 108)), (1, .ref (B + a1)), (2, .int x2)] := hl
  unfold fX3_pairOf at hf
  refine lv_iconst (v := 0) cx.1 cx.2.1 dX3_pairOf_0 (by decide) ?_
  refine lv_istore_n (lv' := [(3, .int 0), (0, .ref (B + 108)), (1, .ref (B + a1)), (2, .int x2)]) cx.1 cx.2.1 dX3_pairOf_1 rfl hl (by decide) rfl (fun ls hl => ?_)
  exact wX3_pairOf_2 cx hr hlk _ _ _ _ h1 _ _ hf _ _ _ wo (lv_sub hl [1, 2, 3, 0] rfl)
set_option maxHeartbeats 1000000 in
set_option maxRecDepth 10000 in
theorem mX3_touchedBy (l : Launch) {G : GG} {B : Nat} {x1 : Int32}  {M : Mem} {q : Int32 × Mem} (hf : fX3_touchedBy x1 M = some q) : Met l yX3_touchedBy (wsG yX3_touchedBy cX3_touchedBy 3 (some .int)) (rmN (3)) (PcW Ph G B 205 M [.ref (B + 108), .int x1]) (QcI Ph G B 205 q.1 q.2) 0 0 (fr B) := by
  refine mk_Met (own := RX3) rfl rfl (Nat.le_of_ble_eq_true rfl) ?_
  intro p e s m below meth c ls cx hr hlk wo hl
  have hl : lv_has ls 3 [(0, .ref (B + 108)), (1, .int x1)] := hl
  unfold fX3_touchedBy at hf
  refine lv_aload_n cx.1 cx.2.1 dX3_touchedBy_0 rfl (lv_at hl 0 rfl) ?_
  refine lv_aload_n cx.1 cx.2.1 dX3_touchedBy_1 rfl (lv_at hl 0 rfl) ?_
  refine r_getR cx wo ad_108.1 ad_108.2.1 ad_108.2.2 fiX3_25 (fn_108_7 wo.2.2.2.1) (by decide) dX3_touchedBy_2 ?_
  refine lv_iload_n cx.1 cx.2.1 dX3_touchedBy_5 rfl (lv_at hl 1 rfl) ?_
  obtain ⟨q1, e2, hf⟩ := bd_elim hf
  refine r_Vi (rest := []) cx wo (mX3_pairOf l ad_113 e2) cvX3_114 rfl ad_108.1 ad_108.2.1 ad_108.2.2 rfl rfl hl.1 rfl (Nat.le_of_ble_eq_true rfl) (hR_ok (by decide)) dX3_touchedBy_6 (fun H locs wo => ?_)
  refine lv_istore_n (lv' := [(2, .int q1.1), (0, .ref (B + 108)), (1, .int x1)]) cx.1 cx.2.1 dX3_touchedBy_9 rfl hl (by decide) rfl (fun ls hl => ?_)
  refine lv_iload_n cx.1 cx.2.1 dX3_touchedBy_10 rfl (lv_at hl 0 rfl) ?_
  refine lv_if_lt (tgt := 23) cx.1 cx.2.1 dX3_touchedBy_11 (by decide) (fun c3 => ?_) (fun c3 => ?_)
  · rw [if_pos c3] at hf
    refine lv_iconst (v := (-1)) cx.1 cx.2.1 dX3_touchedBy_23 (by decide) ?_
    have hq := Option.some.inj hf
    subst hq
    exact r_iret cx wo hr hlk dX3_touchedBy_24
  · rw [if_neg c3] at hf
    refine lv_aload_n cx.1 cx.2.1 dX3_touchedBy_14 rfl (lv_at hl 1 rfl) ?_
    refine r_getR cx wo ad_108.1 ad_108.2.1 ad_108.2.2 fiX3_28 (fn_108_8 wo.2.2.2.1) (by decide) dX3_touchedBy_15 ?_
    refine lv_iload_n cx.1 cx.2.1 dX3_touchedBy_18 rfl (lv_at hl 0 rfl) ?_
    obtain ⟨g4, hf⟩ := gd_elim hf
    refine r_iald cx wo ad_114.1 ad_114.2.1 ad_114.2.2 (by rw [ln_114]; exact g4) dX3_touchedBy_19 ?_
    refine lv_goto (tgt := 24) cx.1 cx.2.1 dX3_touchedBy_20 (by decide) ?_
    have hq := Option.some.inj hf
    subst hq
    exact r_iret cx wo hr hlk dX3_touchedBy_24
set_option maxHeartbeats 1000000 in
set_option maxRecDepth 10000 in
theorem mX3_toucherOf (l : Launch) {G : GG} {B : Nat} {x1 : Int32}  {M : Mem} {q : Int32 × Mem} (hf : fX3_toucherOf x1 M = some q) : Met l yX3_toucherOf (wsG yX3_toucherOf cX3_toucherOf 3 (some .int)) (rmN (3)) (PcW Ph G B 205 M [.ref (B + 108), .int x1]) (QcI Ph G B 205 q.1 q.2) 0 0 (fr B) := by
  refine mk_Met (own := RX3) rfl rfl (Nat.le_of_ble_eq_true rfl) ?_
  intro p e s m below meth c ls cx hr hlk wo hl
  have hl : lv_has ls 3 [(0, .ref (B + 108)), (1, .int x1)] := hl
  unfold fX3_toucherOf at hf
  refine lv_aload_n cx.1 cx.2.1 dX3_toucherOf_0 rfl (lv_at hl 0 rfl) ?_
  refine lv_aload_n cx.1 cx.2.1 dX3_toucherOf_1 rfl (lv_at hl 0 rfl) ?_
  refine r_getR cx wo ad_108.1 ad_108.2.1 ad_108.2.2 fiX3_28 (fn_108_8 wo.2.2.2.1) (by decide) dX3_toucherOf_2 ?_
  refine lv_iload_n cx.1 cx.2.1 dX3_toucherOf_5 rfl (lv_at hl 1 rfl) ?_
  obtain ⟨q1, e2, hf⟩ := bd_elim hf
  refine r_Vi (rest := []) cx wo (mX3_pairOf l ad_114 e2) cvX3_114 rfl ad_108.1 ad_108.2.1 ad_108.2.2 rfl rfl hl.1 rfl (Nat.le_of_ble_eq_true rfl) (hR_ok (by decide)) dX3_toucherOf_6 (fun H locs wo => ?_)
  refine lv_istore_n (lv' := [(2, .int q1.1), (0, .ref (B + 108)), (1, .int x1)]) cx.1 cx.2.1 dX3_toucherOf_9 rfl hl (by decide) rfl (fun ls hl => ?_)
  refine lv_iload_n cx.1 cx.2.1 dX3_toucherOf_10 rfl (lv_at hl 0 rfl) ?_
  refine lv_if_lt (tgt := 23) cx.1 cx.2.1 dX3_toucherOf_11 (by decide) (fun c3 => ?_) (fun c3 => ?_)
  · rw [if_pos c3] at hf
    refine lv_iconst (v := (-1)) cx.1 cx.2.1 dX3_toucherOf_23 (by decide) ?_
    have hq := Option.some.inj hf
    subst hq
    exact r_iret cx wo hr hlk dX3_toucherOf_24
  · rw [if_neg c3] at hf
    refine lv_aload_n cx.1 cx.2.1 dX3_toucherOf_14 rfl (lv_at hl 1 rfl) ?_
    refine r_getR cx wo ad_108.1 ad_108.2.1 ad_108.2.2 fiX3_25 (fn_108_7 wo.2.2.2.1) (by decide) dX3_toucherOf_15 ?_
    refine lv_iload_n cx.1 cx.2.1 dX3_toucherOf_18 rfl (lv_at hl 0 rfl) ?_
    obtain ⟨g4, hf⟩ := gd_elim hf
    refine r_iald cx wo ad_113.1 ad_113.2.1 ad_113.2.2 (by rw [ln_113]; exact g4) dX3_toucherOf_19 ?_
    refine lv_goto (tgt := 24) cx.1 cx.2.1 dX3_toucherOf_20 (by decide) ?_
    have hq := Option.some.inj hf
    subst hq
    exact r_iret cx wo hr hlk dX3_toucherOf_24
set_option maxHeartbeats 1000000 in
set_option maxRecDepth 10000 in
theorem mX3_strokeBy (l : Launch) {G : GG} {B : Nat} {x1 : Int32}  {M : Mem} {q : Int32 × Mem} (hf : fX3_strokeBy x1 M = some q) : Met l yX3_strokeBy (wsG yX3_strokeBy cX3_strokeBy 3 (some .int)) (rmN (3)) (PcW Ph G B 205 M [.ref (B + 108), .int x1]) (QcI Ph G B 205 q.1 q.2) 0 0 (fr B) := by
  refine mk_Met (own := RX3) rfl rfl (Nat.le_of_ble_eq_true rfl) ?_
  intro p e s m below meth c ls cx hr hlk wo hl
  have hl : lv_has ls 3 [(0, .ref (B + 108)), (1, .int x1)] := hl
  unfold fX3_strokeBy at hf
  refine lv_aload_n cx.1 cx.2.1 dX3_strokeBy_0 rfl (lv_at hl 0 rfl) ?_
  refine lv_aload_n cx.1 cx.2.1 dX3_strokeBy_1 rfl (lv_at hl 0 rfl) ?_
  refine r_getR cx wo ad_108.1 ad_108.2.1 ad_108.2.2 fiX3_25 (fn_108_7 wo.2.2.2.1) (by decide) dX3_strokeBy_2 ?_
  refine lv_iload_n cx.1 cx.2.1 dX3_strokeBy_5 rfl (lv_at hl 1 rfl) ?_
  obtain ⟨q1, e2, hf⟩ := bd_elim hf
  refine r_Vi (rest := []) cx wo (mX3_pairOf l ad_113 e2) cvX3_114 rfl ad_108.1 ad_108.2.1 ad_108.2.2 rfl rfl hl.1 rfl (Nat.le_of_ble_eq_true rfl) (hR_ok (by decide)) dX3_strokeBy_6 (fun H locs wo => ?_)
  refine lv_istore_n (lv' := [(2, .int q1.1), (0, .ref (B + 108)), (1, .int x1)]) cx.1 cx.2.1 dX3_strokeBy_9 rfl hl (by decide) rfl (fun ls hl => ?_)
  refine lv_iload_n cx.1 cx.2.1 dX3_strokeBy_10 rfl (lv_at hl 0 rfl) ?_
  refine lv_if_lt (tgt := 23) cx.1 cx.2.1 dX3_strokeBy_11 (by decide) (fun c3 => ?_) (fun c3 => ?_)
  · rw [if_pos c3] at hf
    refine lv_iconst (v := (-1)) cx.1 cx.2.1 dX3_strokeBy_23 (by decide) ?_
    have hq := Option.some.inj hf
    subst hq
    exact r_iret cx wo hr hlk dX3_strokeBy_24
  · rw [if_neg c3] at hf
    refine lv_aload_n cx.1 cx.2.1 dX3_strokeBy_14 rfl (lv_at hl 1 rfl) ?_
    refine r_getR cx wo ad_108.1 ad_108.2.1 ad_108.2.2 fiX3_22 (fn_108_6 wo.2.2.2.1) (by decide) dX3_strokeBy_15 ?_
    refine lv_iload_n cx.1 cx.2.1 dX3_strokeBy_18 rfl (lv_at hl 0 rfl) ?_
    obtain ⟨g4, hf⟩ := gd_elim hf
    refine r_iald cx wo ad_112.1 ad_112.2.1 ad_112.2.2 (by rw [ln_112]; exact g4) dX3_strokeBy_19 ?_
    refine lv_goto (tgt := 24) cx.1 cx.2.1 dX3_strokeBy_20 (by decide) ?_
    have hq := Option.some.inj hf
    subst hq
    exact r_iret cx wo hr hlk dX3_strokeBy_24
set_option maxHeartbeats 1000000 in
set_option maxRecDepth 10000 in
theorem wX3_bitsOf_4 (cx : Cx p s m args c cX3_bitsOf 4 RX3 G) (hr : meth.sig.returnType = (some .int)) (hlk : meth.locks = false) : ∀ (n : Nat) (a1 : Nat) (x2 : Int32) (x3 : Int32) (h1 : isI a1) (M : Mem) (q : Int32 × Mem), fX3_bitsOf_4 n a1 x2 x3 M = some q → ∀ (H : Heap) (locs : List Loc) (ls : Array Slot), Wo Ph G B 205 s M H locs → lv_has ls 4 [(0, .ref (B + 108)), (1, .ref (B + a1)), (2, .int x2), (3, .int x3)] → W p l e (rmN (2)) s m args below meth c H locs 0 0 (MQ below (QcI Ph G B 205 q.1 q.2) args s 0 0 (fr B)) (F0 m 4 ls []) := by
  intro n
  induction n with
  | zero =>
    intro a1 x2 x3 h1 M q hf H locs ls wo hl
    have hf : none = some q := hf
    cases hf
  | succ n ih =>
    intro a1 x2 x3 h1 M q hf H locs ls wo hl
    rw [fX3_bitsOf_4] at hf
    refine lv_iload_n cx.1 cx.2.1 dX3_bitsOf_4 rfl (lv_at hl 3 rfl) ?_
    refine lv_aload_n cx.1 cx.2.1 dX3_bitsOf_5 rfl (lv_at hl 0 rfl) ?_
    refine r_getI cx wo ad_108.1 ad_108.2.1 ad_108.2.2 fiX3_43 dX3_bitsOf_6 ?_
    refine lv_icmp_ge (tgt := 26) cx.1 cx.2.1 dX3_bitsOf_9 (by decide) (fun c1 => ?_) (fun c1 => ?_)
    · rw [if_pos c1] at hf
      refine lv_iload_n cx.1 cx.2.1 dX3_bitsOf_26 rfl (lv_at hl 2 rfl) ?_
      have hq := Option.some.inj hf
      subst hq
      exact r_iret cx wo hr hlk dX3_bitsOf_27
    · rw [if_neg c1] at hf
      refine lv_iload_n cx.1 cx.2.1 dX3_bitsOf_12 rfl (lv_at hl 2 rfl) ?_
      refine lv_iconst (v := 1) cx.1 cx.2.1 dX3_bitsOf_13 (by decide) ?_
      refine lv_aload_n cx.1 cx.2.1 dX3_bitsOf_14 rfl (lv_at hl 1 rfl) ?_
      refine lv_iload_n cx.1 cx.2.1 dX3_bitsOf_15 rfl (lv_at hl 3 rfl) ?_
      obtain ⟨g2, hf⟩ := gd_elim hf
      refine r_iald cx wo (h1).1 (h1).2.1 (h1).2.2 g2 dX3_bitsOf_16 ?_
      refine lv_ishl cx.1 cx.2.1 dX3_bitsOf_17 ?_
      refine lv_ior cx.1 cx.2.1 dX3_bitsOf_18 ?_
      obtain ⟨y3, e4, hf⟩ := lt_elim hf
      refine r_topi e4 ?_
      refine lv_istore_n (lv' := [(2, .int y3), (0, .ref (B + 108)), (1, .ref (B + a1)), (3, .int x3)]) cx.1 cx.2.1 dX3_bitsOf_19 rfl hl (by decide) rfl (fun ls hl => ?_)
      obtain ⟨y5, e6, hf⟩ := lt_elim hf
      refine lv_iinc (v := y5) (lv' := [(3, .int y5), (2, .int y3), (0, .ref (B + 108)), (1, .ref (B + a1))]) cx.1 cx.2.1 dX3_bitsOf_20 hl (k := 3) rfl (by rw [e6]; rfl) (by decide) rfl (fun ls hl => ?_)
      refine lv_goto (tgt := 4) cx.1 cx.2.1 dX3_bitsOf_23 (by decide) ?_
      exact ih _ _ _ h1 _ _ hf _ _ _ wo (lv_sub hl [2, 3, 1, 0] rfl)
set_option maxHeartbeats 1000000 in
set_option maxRecDepth 10000 in
theorem mX3_bitsOf (l : Launch) {G : GG} {B : Nat} {a1 : Nat} (h1 : isI a1) {M : Mem} {q : Int32 × Mem} (hf : fX3_bitsOf a1 M = some q) : Met l yX3_bitsOf (wsG yX3_bitsOf cX3_bitsOf 4 (some .int)) (rmN (2)) (PcW Ph G B 205 M [.ref (B + 108), .ref (B + a1)]) (QcI Ph G B 205 q.1 q.2) 0 0 (fr B) := by
  refine mk_Met (own := RX3) rfl rfl (Nat.le_of_ble_eq_true rfl) ?_
  intro p e s m below meth c ls cx hr hlk wo hl
  have hl : lv_has ls 4 [(0, .ref (B + 108)), (1, .ref (B + a1))] := hl
  unfold fX3_bitsOf at hf
  refine lv_iconst (v := 0) cx.1 cx.2.1 dX3_bitsOf_0 (by decide) ?_
  refine lv_istore_n (lv' := [(2, .int 0), (0, .ref (B + 108)), (1, .ref (B + a1))]) cx.1 cx.2.1 dX3_bitsOf_1 rfl hl (by decide) rfl (fun ls hl => ?_)
  refine lv_iconst (v := 0) cx.1 cx.2.1 dX3_bitsOf_2 (by decide) ?_
  refine lv_istore_n (lv' := [(3, .int 0), (2, .int 0), (0, .ref (B + 108)), (1, .ref (B + a1))]) cx.1 cx.2.1 dX3_bitsOf_3 rfl hl (by decide) rfl (fun ls hl => ?_)
  exact wX3_bitsOf_4 cx hr hlk _ _ _ _ h1 _ _ hf _ _ _ wo (lv_sub hl [2, 3, 1, 0] rfl)
set_option maxHeartbeats 1000000 in
set_option maxRecDepth 10000 in
theorem mX3_touchers (l : Launch) {G : GG} {B : Nat}   {M : Mem} {q : Int32 × Mem} (hf : fX3_touchers  M = some q) : Met l yX3_touchers (wsG yX3_touchers cX3_touchers 1 (some .int)) (rmN (3)) (PcW Ph G B 205 M [.ref (B + 108)]) (QcI Ph G B 205 q.1 q.2) 0 0 (fr B) := by
  refine mk_Met (own := RX3) rfl rfl (Nat.le_of_ble_eq_true rfl) ?_
  intro p e s m below meth c ls cx hr hlk wo hl
  have hl : lv_has ls 1 [(0, .ref (B + 108))] := hl
  unfold fX3_touchers at hf
  refine lv_aload_n cx.1 cx.2.1 dX3_touchers_0 rfl (lv_at hl 0 rfl) ?_
  refine lv_aload_n cx.1 cx.2.1 dX3_touchers_1 rfl (lv_at hl 0 rfl) ?_
  refine r_getR cx wo ad_108.1 ad_108.2.1 ad_108.2.2 fiX3_25 (fn_108_7 wo.2.2.2.1) (by decide) dX3_touchers_2 ?_
  obtain ⟨q1, e2, hf⟩ := bd_elim hf
  refine r_Vi (rest := []) cx wo (mX3_bitsOf l ad_113 e2) cvX3_118 rfl ad_108.1 ad_108.2.1 ad_108.2.2 rfl rfl hl.1 rfl (Nat.le_of_ble_eq_true rfl) (hR_ok (by decide)) dX3_touchers_5 (fun H locs wo => ?_)
  have hq := Option.some.inj hf
  subst hq
  exact r_iret cx wo hr hlk dX3_touchers_8
set_option maxHeartbeats 1000000 in
set_option maxRecDepth 10000 in
theorem mX3_touchedOnes (l : Launch) {G : GG} {B : Nat}   {M : Mem} {q : Int32 × Mem} (hf : fX3_touchedOnes  M = some q) : Met l yX3_touchedOnes (wsG yX3_touchedOnes cX3_touchedOnes 1 (some .int)) (rmN (3)) (PcW Ph G B 205 M [.ref (B + 108)]) (QcI Ph G B 205 q.1 q.2) 0 0 (fr B) := by
  refine mk_Met (own := RX3) rfl rfl (Nat.le_of_ble_eq_true rfl) ?_
  intro p e s m below meth c ls cx hr hlk wo hl
  have hl : lv_has ls 1 [(0, .ref (B + 108))] := hl
  unfold fX3_touchedOnes at hf
  refine lv_aload_n cx.1 cx.2.1 dX3_touchedOnes_0 rfl (lv_at hl 0 rfl) ?_
  refine lv_aload_n cx.1 cx.2.1 dX3_touchedOnes_1 rfl (lv_at hl 0 rfl) ?_
  refine r_getR cx wo ad_108.1 ad_108.2.1 ad_108.2.2 fiX3_28 (fn_108_8 wo.2.2.2.1) (by decide) dX3_touchedOnes_2 ?_
  obtain ⟨q1, e2, hf⟩ := bd_elim hf
  refine r_Vi (rest := []) cx wo (mX3_bitsOf l ad_114 e2) cvX3_118 rfl ad_108.1 ad_108.2.1 ad_108.2.2 rfl rfl hl.1 rfl (Nat.le_of_ble_eq_true rfl) (hR_ok (by decide)) dX3_touchedOnes_5 (fun H locs wo => ?_)
  have hq := Option.some.inj hf
  subst hq
  exact r_iret cx wo hr hlk dX3_touchedOnes_8
set_option maxHeartbeats 1000000 in
set_option maxRecDepth 10000 in
theorem wX3_goingOnes_4 (cx : Cx p s m args c cX3_goingOnes 4 RX3 G) (hr : meth.sig.returnType = (some .int)) (hlk : meth.locks = false) : ∀ (n : Nat) (a1 : Nat) (x2 : Int32) (x3 : Int32) (h1 : a1 ∈ rivers) (M : Mem) (q : Int32 × Mem), fX3_goingOnes_4 n a1 x2 x3 M = some q → ∀ (H : Heap) (locs : List Loc) (ls : Array Slot), Wo Ph G B 205 s M H locs → lv_has ls 4 [(0, .ref (B + 108)), (1, .ref (B + a1)), (2, .int x2), (3, .int x3)] → W p l e (rmN (2)) s m args below meth c H locs 0 0 (MQ below (QcI Ph G B 205 q.1 q.2) args s 0 0 (fr B)) (F0 m 4 ls []) := by
  intro n
  induction n with
  | zero =>
    intro a1 x2 x3 h1 M q hf H locs ls wo hl
    have hf : none = some q := hf
    cases hf
  | succ n ih =>
    intro a1 x2 x3 h1 M q hf H locs ls wo hl
    rw [fX3_goingOnes_4] at hf
    refine lv_iload_n cx.1 cx.2.1 dX3_goingOnes_4 rfl (lv_at hl 3 rfl) ?_
    refine lv_aload_n cx.1 cx.2.1 dX3_goingOnes_5 rfl (lv_at hl 0 rfl) ?_
    refine r_getI cx wo ad_108.1 ad_108.2.1 ad_108.2.2 fiX3_37 dX3_goingOnes_6 ?_
    refine lv_icmp_ge (tgt := 42) cx.1 cx.2.1 dX3_goingOnes_9 (by decide) (fun c1 => ?_) (fun c1 => ?_)
    · rw [if_pos c1] at hf
      refine lv_iload_n cx.1 cx.2.1 dX3_goingOnes_42 rfl (lv_at hl 2 rfl) ?_
      have hq := Option.some.inj hf
      subst hq
      exact r_iret cx wo hr hlk dX3_goingOnes_43
    · rw [if_neg c1] at hf
      refine lv_iload_n cx.1 cx.2.1 dX3_goingOnes_12 rfl (lv_at hl 2 rfl) ?_
      refine lv_aload_n cx.1 cx.2.1 dX3_goingOnes_13 rfl (lv_at hl 0 rfl) ?_
      refine r_getR cx wo ad_108.1 ad_108.2.1 ad_108.2.2 fiX3_15 (fn_108_2 wo.2.2.2.1) (by decide) dX3_goingOnes_14 ?_
      refine lv_iload_n cx.1 cx.2.1 dX3_goingOnes_17 rfl (lv_at hl 3 rfl) ?_
      obtain ⟨g2, hf⟩ := gd_elim hf
      refine r_zald cx wo ad_110.1 ad_110.2.1 ad_110.2.2 (by rw [ln_110]; exact g2) dX3_goingOnes_18 ?_
      refine lv_if_eq (tgt := 33) cx.1 cx.2.1 dX3_goingOnes_19 (by decide) (fun c3 => ?_) (fun c3 => ?_)
      · rw [if_pos c3] at hf
        refine lv_iconst (v := 0) cx.1 cx.2.1 dX3_goingOnes_33 (by decide) ?_
        refine lv_ior cx.1 cx.2.1 dX3_goingOnes_34 ?_
        obtain ⟨y4, e5, hf⟩ := lt_elim hf
        refine r_topi e5 ?_
        refine lv_istore_n (lv' := [(2, .int y4), (0, .ref (B + 108)), (1, .ref (B + a1)), (3, .int x3)]) cx.1 cx.2.1 dX3_goingOnes_35 rfl hl (by decide) rfl (fun ls hl => ?_)
        obtain ⟨y6, e7, hf⟩ := lt_elim hf
        refine lv_iinc (v := y6) (lv' := [(3, .int y6), (2, .int y4), (0, .ref (B + 108)), (1, .ref (B + a1))]) cx.1 cx.2.1 dX3_goingOnes_36 hl (k := 3) rfl (by rw [e7]; rfl) (by decide) rfl (fun ls hl => ?_)
        refine lv_goto (tgt := 4) cx.1 cx.2.1 dX3_goingOnes_39 (by decide) ?_
        exact ih _ _ _ h1 _ _ hf _ _ _ wo (lv_sub hl [2, 3, 1, 0] rfl)
      · rw [if_neg c3] at hf
        refine lv_iconst (v := 1) cx.1 cx.2.1 dX3_goingOnes_22 (by decide) ?_
        refine lv_aload_n cx.1 cx.2.1 dX3_goingOnes_23 rfl (lv_at hl 1 rfl) ?_
        refine r_getR cx wo (riv_ok _ h1).1.1 (riv_ok _ h1).1.2.1 (riv_ok _ h1).1.2.2 fiX3_77 (rv_fn4 wo.2.2.2.1 h1) (by omega) dX3_goingOnes_24 ?_
        refine lv_iload_n cx.1 cx.2.1 dX3_goingOnes_27 rfl (lv_at hl 3 rfl) ?_
        obtain ⟨g8, hf⟩ := gd_elim hf
        refine r_iald cx wo (rvA4 h1).1 (rvA4 h1).2.1 (rvA4 h1).2.2 (by rw [(rvL4 h1)]; exact g8) dX3_goingOnes_28 ?_
        refine lv_ishl cx.1 cx.2.1 dX3_goingOnes_29 ?_
        refine lv_goto (tgt := 34) cx.1 cx.2.1 dX3_goingOnes_30 (by decide) ?_
        refine lv_ior cx.1 cx.2.1 dX3_goingOnes_34 ?_
        obtain ⟨y9, e10, hf⟩ := lt_elim hf
        refine r_topi e10 ?_
        refine lv_istore_n (lv' := [(2, .int y9), (0, .ref (B + 108)), (1, .ref (B + a1)), (3, .int x3)]) cx.1 cx.2.1 dX3_goingOnes_35 rfl hl (by decide) rfl (fun ls hl => ?_)
        obtain ⟨y11, e12, hf⟩ := lt_elim hf
        refine lv_iinc (v := y11) (lv' := [(3, .int y11), (2, .int y9), (0, .ref (B + 108)), (1, .ref (B + a1))]) cx.1 cx.2.1 dX3_goingOnes_36 hl (k := 3) rfl (by rw [e12]; rfl) (by decide) rfl (fun ls hl => ?_)
        refine lv_goto (tgt := 4) cx.1 cx.2.1 dX3_goingOnes_39 (by decide) ?_
        exact ih _ _ _ h1 _ _ hf _ _ _ wo (lv_sub hl [2, 3, 1, 0] rfl)
set_option maxHeartbeats 1000000 in
set_option maxRecDepth 10000 in
theorem mX3_goingOnes (l : Launch) {G : GG} {B : Nat} {a1 : Nat} (h1 : a1 ∈ rivers) {M : Mem} {q : Int32 × Mem} (hf : fX3_goingOnes a1 M = some q) : Met l yX3_goingOnes (wsG yX3_goingOnes cX3_goingOnes 4 (some .int)) (rmN (2)) (PcW Ph G B 205 M [.ref (B + 108), .ref (B + a1)]) (QcI Ph G B 205 q.1 q.2) 0 0 (fr B) := by
  refine mk_Met (own := RX3) rfl rfl (Nat.le_of_ble_eq_true rfl) ?_
  intro p e s m below meth c ls cx hr hlk wo hl
  have hl : lv_has ls 4 [(0, .ref (B + 108)), (1, .ref (B + a1))] := hl
  unfold fX3_goingOnes at hf
  refine lv_iconst (v := 0) cx.1 cx.2.1 dX3_goingOnes_0 (by decide) ?_
  refine lv_istore_n (lv' := [(2, .int 0), (0, .ref (B + 108)), (1, .ref (B + a1))]) cx.1 cx.2.1 dX3_goingOnes_1 rfl hl (by decide) rfl (fun ls hl => ?_)
  refine lv_iconst (v := 0) cx.1 cx.2.1 dX3_goingOnes_2 (by decide) ?_
  refine lv_istore_n (lv' := [(3, .int 0), (2, .int 0), (0, .ref (B + 108)), (1, .ref (B + a1))]) cx.1 cx.2.1 dX3_goingOnes_3 rfl hl (by decide) rfl (fun ls hl => ?_)
  exact wX3_goingOnes_4 cx hr hlk _ _ _ _ h1 _ _ hf _ _ _ wo (lv_sub hl [2, 3, 1, 0] rfl)
end Walk
