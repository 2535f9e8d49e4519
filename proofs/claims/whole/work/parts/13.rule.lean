/-! walks, by program -/
theorem dX6_emit_0 : decode cX6_emit 0 = .ok (.aload_n 0, 1) := by decide +kernel
theorem dX6_emit_1 : decode cX6_emit 1 = .ok (.getfield 28, 3) := by decide +kernel
theorem dX6_emit_4 : decode cX6_emit 4 = .ok (.bipush 40, 2) := by decide +kernel
theorem dX6_emit_6 : decode cX6_emit 6 = .ok (.if_icmp .ge 23, 3) := by decide +kernel
theorem dX6_emit_9 : decode cX6_emit 9 = .ok (.aload_n 0, 1) := by decide +kernel
theorem dX6_emit_10 : decode cX6_emit 10 = .ok (.getfield 11, 3) := by decide +kernel
theorem dX6_emit_13 : decode cX6_emit 13 = .ok (.aload_n 0, 1) := by decide +kernel
theorem dX6_emit_14 : decode cX6_emit 14 = .ok (.getfield 28, 3) := by decide +kernel
theorem dX6_emit_17 : decode cX6_emit 17 = .ok (.iload_n 1, 1) := by decide +kernel
theorem dX6_emit_18 : decode cX6_emit 18 = .ok (.iastore, 1) := by decide +kernel
theorem dX6_emit_19 : decode cX6_emit 19 = .ok (.aload_n 0, 1) := by decide +kernel
theorem dX6_emit_20 : decode cX6_emit 20 = .ok (.dup, 1) := by decide +kernel
theorem dX6_emit_21 : decode cX6_emit 21 = .ok (.getfield 28, 3) := by decide +kernel
theorem dX6_emit_24 : decode cX6_emit 24 = .ok (.iconst 1, 1) := by decide +kernel
theorem dX6_emit_25 : decode cX6_emit 25 = .ok (.iadd, 1) := by decide +kernel
theorem dX6_emit_26 : decode cX6_emit 26 = .ok (.putfield 28, 3) := by decide +kernel
theorem dX6_emit_29 : decode cX6_emit 29 = .ok (.return_, 1) := by decide +kernel
theorem dX6_takeStandard_0 : decode cX6_takeStandard 0 = .ok (.aload_n 0, 1) := by decide +kernel
theorem dX6_takeStandard_1 : decode cX6_takeStandard 1 = .ok (.iconst 0, 1) := by decide +kernel
theorem dX6_takeStandard_2 : decode cX6_takeStandard 2 = .ok (.putfield 28, 3) := by decide +kernel
theorem dX6_takeStandard_5 : decode cX6_takeStandard 5 = .ok (.aload_n 0, 1) := by decide +kernel
theorem dX6_takeStandard_6 : decode cX6_takeStandard 6 = .ok (.iconst 0, 1) := by decide +kernel
theorem dX6_takeStandard_7 : decode cX6_takeStandard 7 = .ok (.putfield 32, 3) := by decide +kernel
theorem dX6_takeStandard_10 : decode cX6_takeStandard 10 = .ok (.aload_n 0, 1) := by decide +kernel
theorem dX6_takeStandard_11 : decode cX6_takeStandard 11 = .ok (.iconst (-1), 1) := by decide +kernel
theorem dX6_takeStandard_12 : decode cX6_takeStandard 12 = .ok (.invokevirtual 36, 3) := by decide +kernel
theorem dX6_takeStandard_15 : decode cX6_takeStandard 15 = .ok (.aload_n 0, 1) := by decide +kernel
theorem dX6_takeStandard_16 : decode cX6_takeStandard 16 = .ok (.bipush (-2), 2) := by decide +kernel
theorem dX6_takeStandard_18 : decode cX6_takeStandard 18 = .ok (.invokevirtual 36, 3) := by decide +kernel
theorem dX6_takeStandard_21 : decode cX6_takeStandard 21 = .ok (.aload_n 0, 1) := by decide +kernel
theorem dX6_takeStandard_22 : decode cX6_takeStandard 22 = .ok (.iconst 4, 1) := by decide +kernel
theorem dX6_takeStandard_23 : decode cX6_takeStandard 23 = .ok (.invokevirtual 36, 3) := by decide +kernel
theorem dX6_takeStandard_26 : decode cX6_takeStandard 26 = .ok (.aload_n 0, 1) := by decide +kernel
theorem dX6_takeStandard_27 : decode cX6_takeStandard 27 = .ok (.bipush (-47), 2) := by decide +kernel
theorem dX6_takeStandard_29 : decode cX6_takeStandard 29 = .ok (.invokevirtual 36, 3) := by decide +kernel
theorem dX6_takeStandard_32 : decode cX6_takeStandard 32 = .ok (.aload_n 0, 1) := by decide +kernel
theorem dX6_takeStandard_33 : decode cX6_takeStandard 33 = .ok (.bipush (-45), 2) := by decide +kernel
theorem dX6_takeStandard_35 : decode cX6_takeStandard 35 = .ok (.invokevirtual 36, 3) := by decide +kernel
theorem dX6_takeStandard_38 : decode cX6_takeStandard 38 = .ok (.return_, 1) := by decide +kernel
theorem dX6_peek_0 : decode cX6_peek 0 = .ok (.aload_n 0, 1) := by decide +kernel
theorem dX6_peek_1 : decode cX6_peek 1 = .ok (.getfield 43, 3) := by decide +kernel
theorem dX6_peek_4 : decode cX6_peek 4 = .ok (.bipush 40, 2) := by decide +kernel
theorem dX6_peek_6 : decode cX6_peek 6 = .ok (.if_icmp .ge 32, 3) := by decide +kernel
theorem dX6_peek_9 : decode cX6_peek 9 = .ok (.aload_n 0, 1) := by decide +kernel
theorem dX6_peek_10 : decode cX6_peek 10 = .ok (.getfield 43, 3) := by decide +kernel
theorem dX6_peek_13 : decode cX6_peek 13 = .ok (.aload_n 0, 1) := by decide +kernel
theorem dX6_peek_14 : decode cX6_peek 14 = .ok (.getfield 21, 3) := by decide +kernel
theorem dX6_peek_17 : decode cX6_peek 17 = .ok (.getfield 40, 3) := by decide +kernel
theorem dX6_peek_20 : decode cX6_peek 20 = .ok (.if_icmp .ge 18, 3) := by decide +kernel
theorem dX6_peek_23 : decode cX6_peek 23 = .ok (.aload_n 0, 1) := by decide +kernel
theorem dX6_peek_24 : decode cX6_peek 24 = .ok (.getfield 21, 3) := by decide +kernel
theorem dX6_peek_27 : decode cX6_peek 27 = .ok (.getfield 50, 3) := by decide +kernel
theorem dX6_peek_30 : decode cX6_peek 30 = .ok (.aload_n 0, 1) := by decide +kernel
theorem dX6_peek_31 : decode cX6_peek 31 = .ok (.getfield 43, 3) := by decide +kernel
theorem dX6_peek_34 : decode cX6_peek 34 = .ok (.iaload, 1) := by decide +kernel
theorem dX6_peek_35 : decode cX6_peek 35 = .ok (.goto 4, 3) := by decide +kernel
theorem dX6_peek_38 : decode cX6_peek 38 = .ok (.iconst (-1), 1) := by decide +kernel
theorem dX6_peek_39 : decode cX6_peek 39 = .ok (.ireturn, 1) := by decide +kernel
theorem dX6_readInner_0 : decode cX6_readInner 0 = .ok (.iload_n 1, 1) := by decide +kernel
theorem dX6_readInner_1 : decode cX6_readInner 1 = .ok (.iconst 4, 1) := by decide +kernel
theorem dX6_readInner_2 : decode cX6_readInner 2 = .ok (.if_icmp .le 5, 3) := by decide +kernel
theorem dX6_readInner_5 : decode cX6_readInner 5 = .ok (.iconst 0, 1) := by decide +kernel
theorem dX6_readInner_6 : decode cX6_readInner 6 = .ok (.ireturn, 1) := by decide +kernel
theorem dX6_readInner_7 : decode cX6_readInner 7 = .ok (.aload_n 0, 1) := by decide +kernel
theorem dX6_readInner_8 : decode cX6_readInner 8 = .ok (.dup, 1) := by decide +kernel
theorem dX6_readInner_9 : decode cX6_readInner 9 = .ok (.getfield 43, 3) := by decide +kernel
theorem dX6_readInner_12 : decode cX6_readInner 12 = .ok (.iconst 1, 1) := by decide +kernel
theorem dX6_readInner_13 : decode cX6_readInner 13 = .ok (.iadd, 1) := by decide +kernel
theorem dX6_readInner_14 : decode cX6_readInner 14 = .ok (.putfield 43, 3) := by decide +kernel
theorem dX6_readInner_17 : decode cX6_readInner 17 = .ok (.aload_n 0, 1) := by decide +kernel
theorem dX6_readInner_18 : decode cX6_readInner 18 = .ok (.iload_n 1, 1) := by decide +kernel
theorem dX6_readInner_19 : decode cX6_readInner 19 = .ok (.invokevirtual 46, 3) := by decide +kernel
theorem dX6_readInner_22 : decode cX6_readInner 22 = .ok (.ifCond .eq 12, 3) := by decide +kernel
theorem dX6_readInner_25 : decode cX6_readInner 25 = .ok (.aload_n 0, 1) := by decide +kernel
theorem dX6_readInner_26 : decode cX6_readInner 26 = .ok (.invokevirtual 56, 3) := by decide +kernel
theorem dX6_readInner_29 : decode cX6_readInner 29 = .ok (.bipush 41, 2) := by decide +kernel
theorem dX6_readInner_31 : decode cX6_readInner 31 = .ok (.if_icmp .eq 5, 3) := by decide +kernel
theorem dX6_readInner_34 : decode cX6_readInner 34 = .ok (.iconst 0, 1) := by decide +kernel
theorem dX6_readInner_35 : decode cX6_readInner 35 = .ok (.ireturn, 1) := by decide +kernel
theorem dX6_readInner_36 : decode cX6_readInner 36 = .ok (.aload_n 0, 1) := by decide +kernel
theorem dX6_readInner_37 : decode cX6_readInner 37 = .ok (.dup, 1) := by decide +kernel
theorem dX6_readInner_38 : decode cX6_readInner 38 = .ok (.getfield 43, 3) := by decide +kernel
theorem dX6_readInner_41 : decode cX6_readInner 41 = .ok (.iconst 1, 1) := by decide +kernel
theorem dX6_readInner_42 : decode cX6_readInner 42 = .ok (.iadd, 1) := by decide +kernel
theorem dX6_readInner_43 : decode cX6_readInner 43 = .ok (.putfield 43, 3) := by decide +kernel
theorem dX6_readInner_46 : decode cX6_readInner 46 = .ok (.iconst 1, 1) := by decide +kernel
theorem dX6_readInner_47 : decode cX6_readInner 47 = .ok (.ireturn, 1) := by decide +kernel
theorem dX6_thingOf_0 : decode cX6_thingOf 0 = .ok (.iload_n 0, 1) := by decide +kernel
theorem dX6_thingOf_1 : decode cX6_thingOf 1 = .ok (.tableswitch 122 98 120 #[117, 122, 122, 122, 122, 115, 122, 113, 122, 122, 122, 122, 119, 122, 107, 122, 122, 122, 111, 122, 122, 122, 109], 107) := by decide +kernel
theorem dX6_thingOf_108 : decode cX6_thingOf 108 = .ok (.iconst 0, 1) := by decide +kernel
theorem dX6_thingOf_109 : decode cX6_thingOf 109 = .ok (.ireturn, 1) := by decide +kernel
theorem dX6_thingOf_110 : decode cX6_thingOf 110 = .ok (.iconst 1, 1) := by decide +kernel
theorem dX6_thingOf_111 : decode cX6_thingOf 111 = .ok (.ireturn, 1) := by decide +kernel
theorem dX6_thingOf_112 : decode cX6_thingOf 112 = .ok (.iconst 2, 1) := by decide +kernel
theorem dX6_thingOf_113 : decode cX6_thingOf 113 = .ok (.ireturn, 1) := by decide +kernel
theorem dX6_thingOf_114 : decode cX6_thingOf 114 = .ok (.iconst 3, 1) := by decide +kernel
theorem dX6_thingOf_115 : decode cX6_thingOf 115 = .ok (.ireturn, 1) := by decide +kernel
theorem dX6_thingOf_116 : decode cX6_thingOf 116 = .ok (.iconst 4, 1) := by decide +kernel
theorem dX6_thingOf_117 : decode cX6_thingOf 117 = .ok (.ireturn, 1) := by decide +kernel
theorem dX6_thingOf_118 : decode cX6_thingOf 118 = .ok (.iconst 5, 1) := by decide +kernel
theorem dX6_thingOf_119 : decode cX6_thingOf 119 = .ok (.ireturn, 1) := by decide +kernel
theorem dX6_thingOf_120 : decode cX6_thingOf 120 = .ok (.bipush 6, 2) := by decide +kernel
theorem dX6_thingOf_122 : decode cX6_thingOf 122 = .ok (.ireturn, 1) := by decide +kernel
theorem dX6_thingOf_123 : decode cX6_thingOf 123 = .ok (.iconst (-1), 1) := by decide +kernel
theorem dX6_thingOf_124 : decode cX6_thingOf 124 = .ok (.ireturn, 1) := by decide +kernel
theorem dX6_readThing_0 : decode cX6_readThing 0 = .ok (.aload_n 0, 1) := by decide +kernel
theorem dX6_readThing_1 : decode cX6_readThing 1 = .ok (.invokevirtual 56, 3) := by decide +kernel
theorem dX6_readThing_4 : decode cX6_readThing 4 = .ok (.invokestatic 73, 3) := by decide +kernel
theorem dX6_readThing_7 : decode cX6_readThing 7 = .ok (.istore_n 1, 1) := by decide +kernel
theorem dX6_readThing_8 : decode cX6_readThing 8 = .ok (.iload_n 1, 1) := by decide +kernel
theorem dX6_readThing_9 : decode cX6_readThing 9 = .ok (.ifCond .lt 53, 3) := by decide +kernel
theorem dX6_readThing_12 : decode cX6_readThing 12 = .ok (.aload_n 0, 1) := by decide +kernel
theorem dX6_readThing_13 : decode cX6_readThing 13 = .ok (.iconst (-1), 1) := by decide +kernel
theorem dX6_readThing_14 : decode cX6_readThing 14 = .ok (.iload_n 1, 1) := by decide +kernel
theorem dX6_readThing_15 : decode cX6_readThing 15 = .ok (.isub, 1) := by decide +kernel
theorem dX6_readThing_16 : decode cX6_readThing 16 = .ok (.invokevirtual 36, 3) := by decide +kernel
theorem dX6_readThing_19 : decode cX6_readThing 19 = .ok (.aload_n 0, 1) := by decide +kernel
theorem dX6_readThing_20 : decode cX6_readThing 20 = .ok (.aload_n 0, 1) := by decide +kernel
theorem dX6_readThing_21 : decode cX6_readThing 21 = .ok (.getfield 32, 3) := by decide +kernel
theorem dX6_readThing_24 : decode cX6_readThing 24 = .ok (.ifCond .ne 18, 3) := by decide +kernel
theorem dX6_readThing_27 : decode cX6_readThing 27 = .ok (.iload_n 1, 1) := by decide +kernel
theorem dX6_readThing_28 : decode cX6_readThing 28 = .ok (.iconst 2, 1) := by decide +kernel
theorem dX6_readThing_29 : decode cX6_readThing 29 = .ok (.if_icmp .eq 13, 3) := by decide +kernel
theorem dX6_readThing_32 : decode cX6_readThing 32 = .ok (.iload_n 1, 1) := by decide +kernel
theorem dX6_readThing_33 : decode cX6_readThing 33 = .ok (.iconst 4, 1) := by decide +kernel
theorem dX6_readThing_34 : decode cX6_readThing 34 = .ok (.if_icmp .eq 8, 3) := by decide +kernel
theorem dX6_readThing_37 : decode cX6_readThing 37 = .ok (.iload_n 1, 1) := by decide +kernel
theorem dX6_readThing_38 : decode cX6_readThing 38 = .ok (.iconst 5, 1) := by decide +kernel
theorem dX6_readThing_39 : decode cX6_readThing 39 = .ok (.if_icmp .ne 7, 3) := by decide +kernel
theorem dX6_readThing_42 : decode cX6_readThing 42 = .ok (.iconst 1, 1) := by decide +kernel
theorem dX6_readThing_43 : decode cX6_readThing 43 = .ok (.goto 4, 3) := by decide +kernel
theorem dX6_readThing_46 : decode cX6_readThing 46 = .ok (.iconst 0, 1) := by decide +kernel
theorem dX6_readThing_47 : decode cX6_readThing 47 = .ok (.putfield 32, 3) := by decide +kernel
theorem dX6_readThing_50 : decode cX6_readThing 50 = .ok (.aload_n 0, 1) := by decide +kernel
theorem dX6_readThing_51 : decode cX6_readThing 51 = .ok (.dup, 1) := by decide +kernel
theorem dX6_readThing_52 : decode cX6_readThing 52 = .ok (.getfield 43, 3) := by decide +kernel
theorem dX6_readThing_55 : decode cX6_readThing 55 = .ok (.iconst 1, 1) := by decide +kernel
theorem dX6_readThing_56 : decode cX6_readThing 56 = .ok (.iadd, 1) := by decide +kernel
theorem dX6_readThing_57 : decode cX6_readThing 57 = .ok (.putfield 43, 3) := by decide +kernel
theorem dX6_readThing_60 : decode cX6_readThing 60 = .ok (.iconst 1, 1) := by decide +kernel
theorem dX6_readThing_61 : decode cX6_readThing 61 = .ok (.ireturn, 1) := by decide +kernel
theorem dX6_readThing_62 : decode cX6_readThing 62 = .ok (.iconst 0, 1) := by decide +kernel
theorem dX6_readThing_63 : decode cX6_readThing 63 = .ok (.istore_n 2, 1) := by decide +kernel
theorem dX6_readThing_64 : decode cX6_readThing 64 = .ok (.iconst 0, 1) := by decide +kernel
theorem dX6_readThing_65 : decode cX6_readThing 65 = .ok (.istore_n 3, 1) := by decide +kernel
theorem dX6_readThing_66 : decode cX6_readThing 66 = .ok (.iconst 0, 1) := by decide +kernel
theorem dX6_readThing_67 : decode cX6_readThing 67 = .ok (.istore 4, 2) := by decide +kernel
theorem dX6_readThing_69 : decode cX6_readThing 69 = .ok (.iload 4, 2) := by decide +kernel
theorem dX6_readThing_71 : decode cX6_readThing 71 = .ok (.iconst 3, 1) := by decide +kernel
theorem dX6_readThing_72 : decode cX6_readThing 72 = .ok (.if_icmp .ge 53, 3) := by decide +kernel
theorem dX6_readThing_75 : decode cX6_readThing 75 = .ok (.aload_n 0, 1) := by decide +kernel
theorem dX6_readThing_76 : decode cX6_readThing 76 = .ok (.invokevirtual 56, 3) := by decide +kernel
theorem dX6_readThing_79 : decode cX6_readThing 79 = .ok (.bipush 48, 2) := by decide +kernel
theorem dX6_readThing_81 : decode cX6_readThing 81 = .ok (.if_icmp .lt 44, 3) := by decide +kernel
theorem dX6_readThing_84 : decode cX6_readThing 84 = .ok (.aload_n 0, 1) := by decide +kernel
theorem dX6_readThing_85 : decode cX6_readThing 85 = .ok (.invokevirtual 56, 3) := by decide +kernel
theorem dX6_readThing_88 : decode cX6_readThing 88 = .ok (.bipush 57, 2) := by decide +kernel
theorem dX6_readThing_90 : decode cX6_readThing 90 = .ok (.if_icmp .gt 35, 3) := by decide +kernel
theorem dX6_readThing_93 : decode cX6_readThing 93 = .ok (.iload_n 2, 1) := by decide +kernel
theorem dX6_readThing_94 : decode cX6_readThing 94 = .ok (.bipush 10, 2) := by decide +kernel
theorem dX6_readThing_96 : decode cX6_readThing 96 = .ok (.imul, 1) := by decide +kernel
theorem dX6_readThing_97 : decode cX6_readThing 97 = .ok (.aload_n 0, 1) := by decide +kernel
theorem dX6_readThing_98 : decode cX6_readThing 98 = .ok (.invokevirtual 56, 3) := by decide +kernel
theorem dX6_readThing_101 : decode cX6_readThing 101 = .ok (.iadd, 1) := by decide +kernel
theorem dX6_readThing_102 : decode cX6_readThing 102 = .ok (.bipush 48, 2) := by decide +kernel
theorem dX6_readThing_104 : decode cX6_readThing 104 = .ok (.isub, 1) := by decide +kernel
theorem dX6_readThing_105 : decode cX6_readThing 105 = .ok (.istore_n 2, 1) := by decide +kernel
theorem dX6_readThing_106 : decode cX6_readThing 106 = .ok (.iinc 3 1, 3) := by decide +kernel
theorem dX6_readThing_109 : decode cX6_readThing 109 = .ok (.aload_n 0, 1) := by decide +kernel
theorem dX6_readThing_110 : decode cX6_readThing 110 = .ok (.dup, 1) := by decide +kernel
theorem dX6_readThing_111 : decode cX6_readThing 111 = .ok (.getfield 43, 3) := by decide +kernel
theorem dX6_readThing_114 : decode cX6_readThing 114 = .ok (.iconst 1, 1) := by decide +kernel
theorem dX6_readThing_115 : decode cX6_readThing 115 = .ok (.iadd, 1) := by decide +kernel
theorem dX6_readThing_116 : decode cX6_readThing 116 = .ok (.putfield 43, 3) := by decide +kernel
theorem dX6_readThing_119 : decode cX6_readThing 119 = .ok (.iinc 4 1, 3) := by decide +kernel
theorem dX6_readThing_122 : decode cX6_readThing 122 = .ok (.goto (-53), 3) := by decide +kernel
theorem dX6_readThing_125 : decode cX6_readThing 125 = .ok (.aload_n 0, 1) := by decide +kernel
theorem dX6_readThing_126 : decode cX6_readThing 126 = .ok (.iload_n 2, 1) := by decide +kernel
theorem dX6_readThing_127 : decode cX6_readThing 127 = .ok (.invokevirtual 36, 3) := by decide +kernel
theorem dX6_readThing_130 : decode cX6_readThing 130 = .ok (.iload_n 3, 1) := by decide +kernel
theorem dX6_readThing_131 : decode cX6_readThing 131 = .ok (.ifCond .le 7, 3) := by decide +kernel
theorem dX6_readThing_134 : decode cX6_readThing 134 = .ok (.iconst 1, 1) := by decide +kernel
theorem dX6_readThing_135 : decode cX6_readThing 135 = .ok (.goto 4, 3) := by decide +kernel
theorem dX6_readThing_138 : decode cX6_readThing 138 = .ok (.iconst 0, 1) := by decide +kernel
theorem dX6_readThing_139 : decode cX6_readThing 139 = .ok (.ireturn, 1) := by decide +kernel
theorem dX6_readSigned_0 : decode cX6_readSigned 0 = .ok (.iconst 0, 1) := by decide +kernel
theorem dX6_readSigned_1 : decode cX6_readSigned 1 = .ok (.istore_n 2, 1) := by decide +kernel
theorem dX6_readSigned_2 : decode cX6_readSigned 2 = .ok (.iconst 0, 1) := by decide +kernel
theorem dX6_readSigned_3 : decode cX6_readSigned 3 = .ok (.istore_n 3, 1) := by decide +kernel
theorem dX6_readSigned_4 : decode cX6_readSigned 4 = .ok (.iload_n 3, 1) := by decide +kernel
theorem dX6_readSigned_5 : decode cX6_readSigned 5 = .ok (.bipush 40, 2) := by decide +kernel
theorem dX6_readSigned_7 : decode cX6_readSigned 7 = .ok (.if_icmp .ge 38, 3) := by decide +kernel
theorem dX6_readSigned_10 : decode cX6_readSigned 10 = .ok (.aload_n 0, 1) := by decide +kernel
theorem dX6_readSigned_11 : decode cX6_readSigned 11 = .ok (.invokevirtual 56, 3) := by decide +kernel
theorem dX6_readSigned_14 : decode cX6_readSigned 14 = .ok (.bipush 45, 2) := by decide +kernel
theorem dX6_readSigned_16 : decode cX6_readSigned 16 = .ok (.if_icmp .ne 29, 3) := by decide +kernel
theorem dX6_readSigned_19 : decode cX6_readSigned 19 = .ok (.iload_n 2, 1) := by decide +kernel
theorem dX6_readSigned_20 : decode cX6_readSigned 20 = .ok (.ifCond .ne 7, 3) := by decide +kernel
theorem dX6_readSigned_23 : decode cX6_readSigned 23 = .ok (.iconst 1, 1) := by decide +kernel
theorem dX6_readSigned_24 : decode cX6_readSigned 24 = .ok (.goto 4, 3) := by decide +kernel
theorem dX6_readSigned_27 : decode cX6_readSigned 27 = .ok (.iconst 0, 1) := by decide +kernel
theorem dX6_readSigned_28 : decode cX6_readSigned 28 = .ok (.istore_n 2, 1) := by decide +kernel
theorem dX6_readSigned_29 : decode cX6_readSigned 29 = .ok (.aload_n 0, 1) := by decide +kernel
theorem dX6_readSigned_30 : decode cX6_readSigned 30 = .ok (.dup, 1) := by decide +kernel
theorem dX6_readSigned_31 : decode cX6_readSigned 31 = .ok (.getfield 43, 3) := by decide +kernel
theorem dX6_readSigned_34 : decode cX6_readSigned 34 = .ok (.iconst 1, 1) := by decide +kernel
theorem dX6_readSigned_35 : decode cX6_readSigned 35 = .ok (.iadd, 1) := by decide +kernel
theorem dX6_readSigned_36 : decode cX6_readSigned 36 = .ok (.putfield 43, 3) := by decide +kernel
theorem dX6_readSigned_39 : decode cX6_readSigned 39 = .ok (.iinc 3 1, 3) := by decide +kernel
theorem dX6_readSigned_42 : decode cX6_readSigned 42 = .ok (.goto (-38), 3) := by decide +kernel
theorem dX6_readSigned_45 : decode cX6_readSigned 45 = .ok (.aload_n 0, 1) := by decide +kernel
theorem dX6_readSigned_46 : decode cX6_readSigned 46 = .ok (.invokevirtual 56, 3) := by decide +kernel
theorem dX6_readSigned_49 : decode cX6_readSigned 49 = .ok (.bipush 40, 2) := by decide +kernel
theorem dX6_readSigned_51 : decode cX6_readSigned 51 = .ok (.if_icmp .ne 13, 3) := by decide +kernel
theorem dX6_readSigned_54 : decode cX6_readSigned 54 = .ok (.aload_n 0, 1) := by decide +kernel
theorem dX6_readSigned_55 : decode cX6_readSigned 55 = .ok (.iload_n 1, 1) := by decide +kernel
theorem dX6_readSigned_56 : decode cX6_readSigned 56 = .ok (.iconst 1, 1) := by decide +kernel
theorem dX6_readSigned_57 : decode cX6_readSigned 57 = .ok (.iadd, 1) := by decide +kernel
theorem dX6_readSigned_58 : decode cX6_readSigned 58 = .ok (.invokevirtual 66, 3) := by decide +kernel
theorem dX6_readSigned_61 : decode cX6_readSigned 61 = .ok (.goto 7, 3) := by decide +kernel
theorem dX6_readSigned_64 : decode cX6_readSigned 64 = .ok (.aload_n 0, 1) := by decide +kernel
theorem dX6_readSigned_65 : decode cX6_readSigned 65 = .ok (.invokevirtual 69, 3) := by decide +kernel
theorem dX6_readSigned_68 : decode cX6_readSigned 68 = .ok (.istore_n 3, 1) := by decide +kernel
theorem dX6_readSigned_69 : decode cX6_readSigned 69 = .ok (.iload_n 3, 1) := by decide +kernel
theorem dX6_readSigned_70 : decode cX6_readSigned 70 = .ok (.ifCond .eq 13, 3) := by decide +kernel
theorem dX6_readSigned_73 : decode cX6_readSigned 73 = .ok (.iload_n 2, 1) := by decide +kernel
theorem dX6_readSigned_74 : decode cX6_readSigned 74 = .ok (.ifCond .eq 9, 3) := by decide +kernel
theorem dX6_readSigned_77 : decode cX6_readSigned 77 = .ok (.aload_n 0, 1) := by decide +kernel
theorem dX6_readSigned_78 : decode cX6_readSigned 78 = .ok (.bipush (-8), 2) := by decide +kernel
theorem dX6_readSigned_80 : decode cX6_readSigned 80 = .ok (.invokevirtual 36, 3) := by decide +kernel
theorem dX6_readSigned_83 : decode cX6_readSigned 83 = .ok (.iload_n 3, 1) := by decide +kernel
theorem dX6_readSigned_84 : decode cX6_readSigned 84 = .ok (.ireturn, 1) := by decide +kernel
theorem dX6_readProduct_0 : decode cX6_readProduct 0 = .ok (.aload_n 0, 1) := by decide +kernel
theorem dX6_readProduct_1 : decode cX6_readProduct 1 = .ok (.iload_n 1, 1) := by decide +kernel
theorem dX6_readProduct_2 : decode cX6_readProduct 2 = .ok (.invokevirtual 63, 3) := by decide +kernel
theorem dX6_readProduct_5 : decode cX6_readProduct 5 = .ok (.istore_n 2, 1) := by decide +kernel
theorem dX6_readProduct_6 : decode cX6_readProduct 6 = .ok (.iconst 0, 1) := by decide +kernel
theorem dX6_readProduct_7 : decode cX6_readProduct 7 = .ok (.istore_n 3, 1) := by decide +kernel
theorem dX6_readProduct_8 : decode cX6_readProduct 8 = .ok (.iload_n 3, 1) := by decide +kernel
theorem dX6_readProduct_9 : decode cX6_readProduct 9 = .ok (.bipush 40, 2) := by decide +kernel
theorem dX6_readProduct_11 : decode cX6_readProduct 11 = .ok (.if_icmp .ge 58, 3) := by decide +kernel
theorem dX6_readProduct_14 : decode cX6_readProduct 14 = .ok (.iload_n 2, 1) := by decide +kernel
theorem dX6_readProduct_15 : decode cX6_readProduct 15 = .ok (.ifCond .eq 54, 3) := by decide +kernel
theorem dX6_readProduct_18 : decode cX6_readProduct 18 = .ok (.aload_n 0, 1) := by decide +kernel
theorem dX6_readProduct_19 : decode cX6_readProduct 19 = .ok (.invokevirtual 56, 3) := by decide +kernel
theorem dX6_readProduct_22 : decode cX6_readProduct 22 = .ok (.istore 4, 2) := by decide +kernel
theorem dX6_readProduct_24 : decode cX6_readProduct 24 = .ok (.iload 4, 2) := by decide +kernel
theorem dX6_readProduct_26 : decode cX6_readProduct 26 = .ok (.bipush 42, 2) := by decide +kernel
theorem dX6_readProduct_28 : decode cX6_readProduct 28 = .ok (.if_icmp .eq 12, 3) := by decide +kernel
theorem dX6_readProduct_31 : decode cX6_readProduct 31 = .ok (.iload 4, 2) := by decide +kernel
theorem dX6_readProduct_33 : decode cX6_readProduct 33 = .ok (.bipush 47, 2) := by decide +kernel
theorem dX6_readProduct_35 : decode cX6_readProduct 35 = .ok (.if_icmp .eq 5, 3) := by decide +kernel
theorem dX6_readProduct_38 : decode cX6_readProduct 38 = .ok (.iconst 1, 1) := by decide +kernel
theorem dX6_readProduct_39 : decode cX6_readProduct 39 = .ok (.ireturn, 1) := by decide +kernel
theorem dX6_readProduct_40 : decode cX6_readProduct 40 = .ok (.aload_n 0, 1) := by decide +kernel
theorem dX6_readProduct_41 : decode cX6_readProduct 41 = .ok (.dup, 1) := by decide +kernel
theorem dX6_readProduct_42 : decode cX6_readProduct 42 = .ok (.getfield 43, 3) := by decide +kernel
theorem dX6_readProduct_45 : decode cX6_readProduct 45 = .ok (.iconst 1, 1) := by decide +kernel
theorem dX6_readProduct_46 : decode cX6_readProduct 46 = .ok (.iadd, 1) := by decide +kernel
theorem dX6_readProduct_47 : decode cX6_readProduct 47 = .ok (.putfield 43, 3) := by decide +kernel
theorem dX6_readProduct_50 : decode cX6_readProduct 50 = .ok (.aload_n 0, 1) := by decide +kernel
theorem dX6_readProduct_51 : decode cX6_readProduct 51 = .ok (.iload_n 1, 1) := by decide +kernel
theorem dX6_readProduct_52 : decode cX6_readProduct 52 = .ok (.invokevirtual 63, 3) := by decide +kernel
theorem dX6_readProduct_55 : decode cX6_readProduct 55 = .ok (.istore_n 2, 1) := by decide +kernel
theorem dX6_readProduct_56 : decode cX6_readProduct 56 = .ok (.aload_n 0, 1) := by decide +kernel
theorem dX6_readProduct_57 : decode cX6_readProduct 57 = .ok (.iload 4, 2) := by decide +kernel
theorem dX6_readProduct_59 : decode cX6_readProduct 59 = .ok (.ineg, 1) := by decide +kernel
theorem dX6_readProduct_60 : decode cX6_readProduct 60 = .ok (.invokevirtual 36, 3) := by decide +kernel
theorem dX6_readProduct_63 : decode cX6_readProduct 63 = .ok (.iinc 3 1, 3) := by decide +kernel
theorem dX6_readProduct_66 : decode cX6_readProduct 66 = .ok (.goto (-58), 3) := by decide +kernel
theorem dX6_readProduct_69 : decode cX6_readProduct 69 = .ok (.iload_n 2, 1) := by decide +kernel
theorem dX6_readProduct_70 : decode cX6_readProduct 70 = .ok (.ireturn, 1) := by decide +kernel
theorem dX6_readSum_0 : decode cX6_readSum 0 = .ok (.aload_n 0, 1) := by decide +kernel
theorem dX6_readSum_1 : decode cX6_readSum 1 = .ok (.iload_n 1, 1) := by decide +kernel
theorem dX6_readSum_2 : decode cX6_readSum 2 = .ok (.invokevirtual 60, 3) := by decide +kernel
theorem dX6_readSum_5 : decode cX6_readSum 5 = .ok (.istore_n 2, 1) := by decide +kernel
theorem dX6_readSum_6 : decode cX6_readSum 6 = .ok (.iconst 0, 1) := by decide +kernel
theorem dX6_readSum_7 : decode cX6_readSum 7 = .ok (.istore_n 3, 1) := by decide +kernel
theorem dX6_readSum_8 : decode cX6_readSum 8 = .ok (.iload_n 3, 1) := by decide +kernel
theorem dX6_readSum_9 : decode cX6_readSum 9 = .ok (.bipush 40, 2) := by decide +kernel
theorem dX6_readSum_11 : decode cX6_readSum 11 = .ok (.if_icmp .ge 58, 3) := by decide +kernel
theorem dX6_readSum_14 : decode cX6_readSum 14 = .ok (.iload_n 2, 1) := by decide +kernel
theorem dX6_readSum_15 : decode cX6_readSum 15 = .ok (.ifCond .eq 54, 3) := by decide +kernel
theorem dX6_readSum_18 : decode cX6_readSum 18 = .ok (.aload_n 0, 1) := by decide +kernel
theorem dX6_readSum_19 : decode cX6_readSum 19 = .ok (.invokevirtual 56, 3) := by decide +kernel
theorem dX6_readSum_22 : decode cX6_readSum 22 = .ok (.istore 4, 2) := by decide +kernel
theorem dX6_readSum_24 : decode cX6_readSum 24 = .ok (.iload 4, 2) := by decide +kernel
theorem dX6_readSum_26 : decode cX6_readSum 26 = .ok (.bipush 43, 2) := by decide +kernel
theorem dX6_readSum_28 : decode cX6_readSum 28 = .ok (.if_icmp .eq 12, 3) := by decide +kernel
theorem dX6_readSum_31 : decode cX6_readSum 31 = .ok (.iload 4, 2) := by decide +kernel
theorem dX6_readSum_33 : decode cX6_readSum 33 = .ok (.bipush 45, 2) := by decide +kernel
theorem dX6_readSum_35 : decode cX6_readSum 35 = .ok (.if_icmp .eq 5, 3) := by decide +kernel
theorem dX6_readSum_38 : decode cX6_readSum 38 = .ok (.iconst 1, 1) := by decide +kernel
theorem dX6_readSum_39 : decode cX6_readSum 39 = .ok (.ireturn, 1) := by decide +kernel
theorem dX6_readSum_40 : decode cX6_readSum 40 = .ok (.aload_n 0, 1) := by decide +kernel
theorem dX6_readSum_41 : decode cX6_readSum 41 = .ok (.dup, 1) := by decide +kernel
theorem dX6_readSum_42 : decode cX6_readSum 42 = .ok (.getfield 43, 3) := by decide +kernel
theorem dX6_readSum_45 : decode cX6_readSum 45 = .ok (.iconst 1, 1) := by decide +kernel
theorem dX6_readSum_46 : decode cX6_readSum 46 = .ok (.iadd, 1) := by decide +kernel
theorem dX6_readSum_47 : decode cX6_readSum 47 = .ok (.putfield 43, 3) := by decide +kernel
theorem dX6_readSum_50 : decode cX6_readSum 50 = .ok (.aload_n 0, 1) := by decide +kernel
theorem dX6_readSum_51 : decode cX6_readSum 51 = .ok (.iload_n 1, 1) := by decide +kernel
theorem dX6_readSum_52 : decode cX6_readSum 52 = .ok (.invokevirtual 60, 3) := by decide +kernel
theorem dX6_readSum_55 : decode cX6_readSum 55 = .ok (.istore_n 2, 1) := by decide +kernel
theorem dX6_readSum_56 : decode cX6_readSum 56 = .ok (.aload_n 0, 1) := by decide +kernel
theorem dX6_readSum_57 : decode cX6_readSum 57 = .ok (.iload 4, 2) := by decide +kernel
theorem dX6_readSum_59 : decode cX6_readSum 59 = .ok (.ineg, 1) := by decide +kernel
theorem dX6_readSum_60 : decode cX6_readSum 60 = .ok (.invokevirtual 36, 3) := by decide +kernel
theorem dX6_readSum_63 : decode cX6_readSum 63 = .ok (.iinc 3 1, 3) := by decide +kernel
theorem dX6_readSum_66 : decode cX6_readSum 66 = .ok (.goto (-58), 3) := by decide +kernel
theorem dX6_readSum_69 : decode cX6_readSum 69 = .ok (.iload_n 2, 1) := by decide +kernel
theorem dX6_readSum_70 : decode cX6_readSum 70 = .ok (.ireturn, 1) := by decide +kernel
theorem dX6_readExpression_0 : decode cX6_readExpression 0 = .ok (.aload_n 0, 1) := by decide +kernel
theorem dX6_readExpression_1 : decode cX6_readExpression 1 = .ok (.iload_n 1, 1) := by decide +kernel
theorem dX6_readExpression_2 : decode cX6_readExpression 2 = .ok (.invokevirtual 53, 3) := by decide +kernel
theorem dX6_readExpression_5 : decode cX6_readExpression 5 = .ok (.ifCond .ne 5, 3) := by decide +kernel
theorem dX6_readExpression_8 : decode cX6_readExpression 8 = .ok (.iconst 0, 1) := by decide +kernel
theorem dX6_readExpression_9 : decode cX6_readExpression 9 = .ok (.ireturn, 1) := by decide +kernel
theorem dX6_readExpression_10 : decode cX6_readExpression 10 = .ok (.aload_n 0, 1) := by decide +kernel
theorem dX6_readExpression_11 : decode cX6_readExpression 11 = .ok (.invokevirtual 56, 3) := by decide +kernel
theorem dX6_readExpression_14 : decode cX6_readExpression 14 = .ok (.istore_n 2, 1) := by decide +kernel
theorem dX6_readExpression_15 : decode cX6_readExpression 15 = .ok (.iload_n 2, 1) := by decide +kernel
theorem dX6_readExpression_16 : decode cX6_readExpression 16 = .ok (.bipush 60, 2) := by decide +kernel
theorem dX6_readExpression_18 : decode cX6_readExpression 18 = .ok (.if_icmp .eq 17, 3) := by decide +kernel
theorem dX6_readExpression_21 : decode cX6_readExpression 21 = .ok (.iload_n 2, 1) := by decide +kernel
theorem dX6_readExpression_22 : decode cX6_readExpression 22 = .ok (.bipush 62, 2) := by decide +kernel
theorem dX6_readExpression_24 : decode cX6_readExpression 24 = .ok (.if_icmp .eq 11, 3) := by decide +kernel
theorem dX6_readExpression_27 : decode cX6_readExpression 27 = .ok (.iload_n 2, 1) := by decide +kernel
theorem dX6_readExpression_28 : decode cX6_readExpression 28 = .ok (.bipush 61, 2) := by decide +kernel
theorem dX6_readExpression_30 : decode cX6_readExpression 30 = .ok (.if_icmp .eq 5, 3) := by decide +kernel
theorem dX6_readExpression_33 : decode cX6_readExpression 33 = .ok (.iconst 1, 1) := by decide +kernel
theorem dX6_readExpression_34 : decode cX6_readExpression 34 = .ok (.ireturn, 1) := by decide +kernel
theorem dX6_readExpression_35 : decode cX6_readExpression 35 = .ok (.aload_n 0, 1) := by decide +kernel
theorem dX6_readExpression_36 : decode cX6_readExpression 36 = .ok (.dup, 1) := by decide +kernel
theorem dX6_readExpression_37 : decode cX6_readExpression 37 = .ok (.getfield 43, 3) := by decide +kernel
theorem dX6_readExpression_40 : decode cX6_readExpression 40 = .ok (.iconst 1, 1) := by decide +kernel
theorem dX6_readExpression_41 : decode cX6_readExpression 41 = .ok (.iadd, 1) := by decide +kernel
theorem dX6_readExpression_42 : decode cX6_readExpression 42 = .ok (.putfield 43, 3) := by decide +kernel
theorem dX6_readExpression_45 : decode cX6_readExpression 45 = .ok (.aload_n 0, 1) := by decide +kernel
theorem dX6_readExpression_46 : decode cX6_readExpression 46 = .ok (.iload_n 1, 1) := by decide +kernel
theorem dX6_readExpression_47 : decode cX6_readExpression 47 = .ok (.invokevirtual 53, 3) := by decide +kernel
theorem dX6_readExpression_50 : decode cX6_readExpression 50 = .ok (.ifCond .ne 5, 3) := by decide +kernel
theorem dX6_readExpression_53 : decode cX6_readExpression 53 = .ok (.iconst 0, 1) := by decide +kernel
theorem dX6_readExpression_54 : decode cX6_readExpression 54 = .ok (.ireturn, 1) := by decide +kernel
theorem dX6_readExpression_55 : decode cX6_readExpression 55 = .ok (.aload_n 0, 1) := by decide +kernel
theorem dX6_readExpression_56 : decode cX6_readExpression 56 = .ok (.iload_n 2, 1) := by decide +kernel
theorem dX6_readExpression_57 : decode cX6_readExpression 57 = .ok (.ineg, 1) := by decide +kernel
theorem dX6_readExpression_58 : decode cX6_readExpression 58 = .ok (.invokevirtual 36, 3) := by decide +kernel
theorem dX6_readExpression_61 : decode cX6_readExpression 61 = .ok (.iconst 1, 1) := by decide +kernel
theorem dX6_readExpression_62 : decode cX6_readExpression 62 = .ok (.ireturn, 1) := by decide +kernel
theorem dX6_compile_0 : decode cX6_compile 0 = .ok (.aload_n 0, 1) := by decide +kernel
theorem dX6_compile_1 : decode cX6_compile 1 = .ok (.getfield 21, 3) := by decide +kernel
theorem dX6_compile_4 : decode cX6_compile 4 = .ok (.getfield 40, 3) := by decide +kernel
theorem dX6_compile_7 : decode cX6_compile 7 = .ok (.ifCond .ne 9, 3) := by decide +kernel
theorem dX6_compile_10 : decode cX6_compile 10 = .ok (.aload_n 0, 1) := by decide +kernel
theorem dX6_compile_11 : decode cX6_compile 11 = .ok (.invokevirtual 25, 3) := by decide +kernel
theorem dX6_compile_14 : decode cX6_compile 14 = .ok (.iconst (-1), 1) := by decide +kernel
theorem dX6_compile_15 : decode cX6_compile 15 = .ok (.ireturn, 1) := by decide +kernel
theorem dX6_compile_16 : decode cX6_compile 16 = .ok (.aload_n 0, 1) := by decide +kernel
theorem dX6_compile_17 : decode cX6_compile 17 = .ok (.iconst 0, 1) := by decide +kernel
theorem dX6_compile_18 : decode cX6_compile 18 = .ok (.putfield 28, 3) := by decide +kernel
theorem dX6_compile_21 : decode cX6_compile 21 = .ok (.aload_n 0, 1) := by decide +kernel
theorem dX6_compile_22 : decode cX6_compile 22 = .ok (.iconst 0, 1) := by decide +kernel
theorem dX6_compile_23 : decode cX6_compile 23 = .ok (.putfield 32, 3) := by decide +kernel
theorem dX6_compile_26 : decode cX6_compile 26 = .ok (.aload_n 0, 1) := by decide +kernel
theorem dX6_compile_27 : decode cX6_compile 27 = .ok (.iconst 0, 1) := by decide +kernel
theorem dX6_compile_28 : decode cX6_compile 28 = .ok (.putfield 43, 3) := by decide +kernel
theorem dX6_compile_31 : decode cX6_compile 31 = .ok (.aload_n 0, 1) := by decide +kernel
theorem dX6_compile_32 : decode cX6_compile 32 = .ok (.iconst 0, 1) := by decide +kernel
theorem dX6_compile_33 : decode cX6_compile 33 = .ok (.invokevirtual 46, 3) := by decide +kernel
theorem dX6_compile_36 : decode cX6_compile 36 = .ok (.ifCond .eq 21, 3) := by decide +kernel
theorem dX6_compile_39 : decode cX6_compile 39 = .ok (.aload_n 0, 1) := by decide +kernel
theorem dX6_compile_40 : decode cX6_compile 40 = .ok (.getfield 43, 3) := by decide +kernel
theorem dX6_compile_43 : decode cX6_compile 43 = .ok (.aload_n 0, 1) := by decide +kernel
theorem dX6_compile_44 : decode cX6_compile 44 = .ok (.getfield 21, 3) := by decide +kernel
theorem dX6_compile_47 : decode cX6_compile 47 = .ok (.getfield 40, 3) := by decide +kernel
theorem dX6_compile_50 : decode cX6_compile 50 = .ok (.if_icmp .lt 7, 3) := by decide +kernel
theorem dX6_compile_53 : decode cX6_compile 53 = .ok (.iconst (-1), 1) := by decide +kernel
theorem dX6_compile_54 : decode cX6_compile 54 = .ok (.goto 7, 3) := by decide +kernel
theorem dX6_compile_57 : decode cX6_compile 57 = .ok (.aload_n 0, 1) := by decide +kernel
theorem dX6_compile_58 : decode cX6_compile 58 = .ok (.getfield 43, 3) := by decide +kernel
theorem dX6_compile_61 : decode cX6_compile 61 = .ok (.ireturn, 1) := by decide +kernel
theorem dX6_joined_0 : decode cX6_joined 0 = .ok (.iload_n 0, 1) := by decide +kernel
theorem dX6_joined_1 : decode cX6_joined 1 = .ok (.lookupswitch 105 #[(42, 67), (43, 59), (45, 63), (47, 71), (60, 83), (62, 94)], 59) := by decide +kernel
theorem dX6_joined_60 : decode cX6_joined 60 = .ok (.iload_n 1, 1) := by decide +kernel
theorem dX6_joined_61 : decode cX6_joined 61 = .ok (.iload_n 2, 1) := by decide +kernel
theorem dX6_joined_62 : decode cX6_joined 62 = .ok (.iadd, 1) := by decide +kernel
theorem dX6_joined_63 : decode cX6_joined 63 = .ok (.ireturn, 1) := by decide +kernel
theorem dX6_joined_64 : decode cX6_joined 64 = .ok (.iload_n 1, 1) := by decide +kernel
theorem dX6_joined_65 : decode cX6_joined 65 = .ok (.iload_n 2, 1) := by decide +kernel
theorem dX6_joined_66 : decode cX6_joined 66 = .ok (.isub, 1) := by decide +kernel
theorem dX6_joined_67 : decode cX6_joined 67 = .ok (.ireturn, 1) := by decide +kernel
theorem dX6_joined_68 : decode cX6_joined 68 = .ok (.iload_n 1, 1) := by decide +kernel
theorem dX6_joined_69 : decode cX6_joined 69 = .ok (.iload_n 2, 1) := by decide +kernel
theorem dX6_joined_70 : decode cX6_joined 70 = .ok (.imul, 1) := by decide +kernel
theorem dX6_joined_71 : decode cX6_joined 71 = .ok (.ireturn, 1) := by decide +kernel
theorem dX6_joined_72 : decode cX6_joined 72 = .ok (.iload_n 2, 1) := by decide +kernel
theorem dX6_joined_73 : decode cX6_joined 73 = .ok (.ifCond .ne 7, 3) := by decide +kernel
theorem dX6_joined_76 : decode cX6_joined 76 = .ok (.iconst 0, 1) := by decide +kernel
theorem dX6_joined_77 : decode cX6_joined 77 = .ok (.goto 6, 3) := by decide +kernel
theorem dX6_joined_80 : decode cX6_joined 80 = .ok (.iload_n 1, 1) := by decide +kernel
theorem dX6_joined_81 : decode cX6_joined 81 = .ok (.iload_n 2, 1) := by decide +kernel
theorem dX6_joined_82 : decode cX6_joined 82 = .ok (.idiv, 1) := by decide +kernel
theorem dX6_joined_83 : decode cX6_joined 83 = .ok (.ireturn, 1) := by decide +kernel
theorem dX6_joined_84 : decode cX6_joined 84 = .ok (.iload_n 1, 1) := by decide +kernel
theorem dX6_joined_85 : decode cX6_joined 85 = .ok (.iload_n 2, 1) := by decide +kernel
theorem dX6_joined_86 : decode cX6_joined 86 = .ok (.if_icmp .ge 7, 3) := by decide +kernel
theorem dX6_joined_89 : decode cX6_joined 89 = .ok (.iconst 1, 1) := by decide +kernel
theorem dX6_joined_90 : decode cX6_joined 90 = .ok (.goto 4, 3) := by decide +kernel
theorem dX6_joined_93 : decode cX6_joined 93 = .ok (.iconst 0, 1) := by decide +kernel
theorem dX6_joined_94 : decode cX6_joined 94 = .ok (.ireturn, 1) := by decide +kernel
theorem dX6_joined_95 : decode cX6_joined 95 = .ok (.iload_n 1, 1) := by decide +kernel
theorem dX6_joined_96 : decode cX6_joined 96 = .ok (.iload_n 2, 1) := by decide +kernel
theorem dX6_joined_97 : decode cX6_joined 97 = .ok (.if_icmp .le 7, 3) := by decide +kernel
theorem dX6_joined_100 : decode cX6_joined 100 = .ok (.iconst 1, 1) := by decide +kernel
theorem dX6_joined_101 : decode cX6_joined 101 = .ok (.goto 4, 3) := by decide +kernel
theorem dX6_joined_104 : decode cX6_joined 104 = .ok (.iconst 0, 1) := by decide +kernel
theorem dX6_joined_105 : decode cX6_joined 105 = .ok (.ireturn, 1) := by decide +kernel
theorem dX6_joined_106 : decode cX6_joined 106 = .ok (.iload_n 1, 1) := by decide +kernel
theorem dX6_joined_107 : decode cX6_joined 107 = .ok (.iload_n 2, 1) := by decide +kernel
theorem dX6_joined_108 : decode cX6_joined 108 = .ok (.if_icmp .ne 7, 3) := by decide +kernel
theorem dX6_joined_111 : decode cX6_joined 111 = .ok (.iconst 1, 1) := by decide +kernel
theorem dX6_joined_112 : decode cX6_joined 112 = .ok (.goto 4, 3) := by decide +kernel
theorem dX6_joined_115 : decode cX6_joined 115 = .ok (.iconst 0, 1) := by decide +kernel
theorem dX6_joined_116 : decode cX6_joined 116 = .ok (.ireturn, 1) := by decide +kernel
theorem dX6_feet_0 : decode cX6_feet 0 = .ok (.iconst 0, 1) := by decide +kernel
theorem dX6_feet_1 : decode cX6_feet 1 = .ok (.istore_n 1, 1) := by decide +kernel
theorem dX6_feet_2 : decode cX6_feet 2 = .ok (.iconst 0, 1) := by decide +kernel
theorem dX6_feet_3 : decode cX6_feet 3 = .ok (.istore_n 2, 1) := by decide +kernel
theorem dX6_feet_4 : decode cX6_feet 4 = .ok (.iload_n 2, 1) := by decide +kernel
theorem dX6_feet_5 : decode cX6_feet 5 = .ok (.aload_n 0, 1) := by decide +kernel
theorem dX6_feet_6 : decode cX6_feet 6 = .ok (.getfield 28, 3) := by decide +kernel
theorem dX6_feet_9 : decode cX6_feet 9 = .ok (.if_icmp .ge 128, 3) := by decide +kernel
theorem dX6_feet_12 : decode cX6_feet 12 = .ok (.aload_n 0, 1) := by decide +kernel
theorem dX6_feet_13 : decode cX6_feet 13 = .ok (.getfield 11, 3) := by decide +kernel
theorem dX6_feet_16 : decode cX6_feet 16 = .ok (.iload_n 2, 1) := by decide +kernel
theorem dX6_feet_17 : decode cX6_feet 17 = .ok (.iaload, 1) := by decide +kernel
theorem dX6_feet_18 : decode cX6_feet 18 = .ok (.istore_n 3, 1) := by decide +kernel
theorem dX6_feet_19 : decode cX6_feet 19 = .ok (.iload_n 3, 1) := by decide +kernel
theorem dX6_feet_20 : decode cX6_feet 20 = .ok (.bipush (-8), 2) := by decide +kernel
theorem dX6_feet_22 : decode cX6_feet 22 = .ok (.if_icmp .le 39, 3) := by decide +kernel
theorem dX6_feet_25 : decode cX6_feet 25 = .ok (.iload_n 1, 1) := by decide +kernel
theorem dX6_feet_26 : decode cX6_feet 26 = .ok (.bipush 40, 2) := by decide +kernel
theorem dX6_feet_28 : decode cX6_feet 28 = .ok (.if_icmp .lt 5, 3) := by decide +kernel
theorem dX6_feet_31 : decode cX6_feet 31 = .ok (.iconst 0, 1) := by decide +kernel
theorem dX6_feet_32 : decode cX6_feet 32 = .ok (.ireturn, 1) := by decide +kernel
theorem dX6_feet_33 : decode cX6_feet 33 = .ok (.aload_n 0, 1) := by decide +kernel
theorem dX6_feet_34 : decode cX6_feet 34 = .ok (.getfield 18, 3) := by decide +kernel
theorem dX6_feet_37 : decode cX6_feet 37 = .ok (.iload_n 1, 1) := by decide +kernel
theorem dX6_feet_38 : decode cX6_feet 38 = .ok (.iload_n 3, 1) := by decide +kernel
theorem dX6_feet_39 : decode cX6_feet 39 = .ok (.ifCond .lt 7, 3) := by decide +kernel
theorem dX6_feet_42 : decode cX6_feet 42 = .ok (.iload_n 3, 1) := by decide +kernel
theorem dX6_feet_43 : decode cX6_feet 43 = .ok (.goto 11, 3) := by decide +kernel
theorem dX6_feet_46 : decode cX6_feet 46 = .ok (.aload_n 0, 1) := by decide +kernel
theorem dX6_feet_47 : decode cX6_feet 47 = .ok (.getfield 15, 3) := by decide +kernel
theorem dX6_feet_50 : decode cX6_feet 50 = .ok (.iconst (-1), 1) := by decide +kernel
theorem dX6_feet_51 : decode cX6_feet 51 = .ok (.iload_n 3, 1) := by decide +kernel
theorem dX6_feet_52 : decode cX6_feet 52 = .ok (.isub, 1) := by decide +kernel
theorem dX6_feet_53 : decode cX6_feet 53 = .ok (.iaload, 1) := by decide +kernel
theorem dX6_feet_54 : decode cX6_feet 54 = .ok (.iastore, 1) := by decide +kernel
theorem dX6_feet_55 : decode cX6_feet 55 = .ok (.iinc 1 1, 3) := by decide +kernel
theorem dX6_feet_58 : decode cX6_feet 58 = .ok (.goto 73, 3) := by decide +kernel
theorem dX6_feet_61 : decode cX6_feet 61 = .ok (.iload_n 3, 1) := by decide +kernel
theorem dX6_feet_62 : decode cX6_feet 62 = .ok (.bipush (-8), 2) := by decide +kernel
theorem dX6_feet_64 : decode cX6_feet 64 = .ok (.if_icmp .ne 30, 3) := by decide +kernel
theorem dX6_feet_67 : decode cX6_feet 67 = .ok (.iload_n 1, 1) := by decide +kernel
theorem dX6_feet_68 : decode cX6_feet 68 = .ok (.iconst 1, 1) := by decide +kernel
theorem dX6_feet_69 : decode cX6_feet 69 = .ok (.if_icmp .ge 5, 3) := by decide +kernel
theorem dX6_feet_72 : decode cX6_feet 72 = .ok (.iconst 0, 1) := by decide +kernel
theorem dX6_feet_73 : decode cX6_feet 73 = .ok (.ireturn, 1) := by decide +kernel
theorem dX6_feet_74 : decode cX6_feet 74 = .ok (.aload_n 0, 1) := by decide +kernel
theorem dX6_feet_75 : decode cX6_feet 75 = .ok (.getfield 18, 3) := by decide +kernel
theorem dX6_feet_78 : decode cX6_feet 78 = .ok (.iload_n 1, 1) := by decide +kernel
theorem dX6_feet_79 : decode cX6_feet 79 = .ok (.iconst 1, 1) := by decide +kernel
theorem dX6_feet_80 : decode cX6_feet 80 = .ok (.isub, 1) := by decide +kernel
theorem dX6_feet_81 : decode cX6_feet 81 = .ok (.aload_n 0, 1) := by decide +kernel
theorem dX6_feet_82 : decode cX6_feet 82 = .ok (.getfield 18, 3) := by decide +kernel
theorem dX6_feet_85 : decode cX6_feet 85 = .ok (.iload_n 1, 1) := by decide +kernel
theorem dX6_feet_86 : decode cX6_feet 86 = .ok (.iconst 1, 1) := by decide +kernel
theorem dX6_feet_87 : decode cX6_feet 87 = .ok (.isub, 1) := by decide +kernel
theorem dX6_feet_88 : decode cX6_feet 88 = .ok (.iaload, 1) := by decide +kernel
theorem dX6_feet_89 : decode cX6_feet 89 = .ok (.ineg, 1) := by decide +kernel
theorem dX6_feet_90 : decode cX6_feet 90 = .ok (.iastore, 1) := by decide +kernel
theorem dX6_feet_91 : decode cX6_feet 91 = .ok (.goto 40, 3) := by decide +kernel
theorem dX6_feet_94 : decode cX6_feet 94 = .ok (.iload_n 1, 1) := by decide +kernel
theorem dX6_feet_95 : decode cX6_feet 95 = .ok (.iconst 2, 1) := by decide +kernel
theorem dX6_feet_96 : decode cX6_feet 96 = .ok (.if_icmp .ge 5, 3) := by decide +kernel
theorem dX6_feet_99 : decode cX6_feet 99 = .ok (.iconst 0, 1) := by decide +kernel
theorem dX6_feet_100 : decode cX6_feet 100 = .ok (.ireturn, 1) := by decide +kernel
theorem dX6_feet_101 : decode cX6_feet 101 = .ok (.iinc 1 (-1), 3) := by decide +kernel
theorem dX6_feet_104 : decode cX6_feet 104 = .ok (.aload_n 0, 1) := by decide +kernel
theorem dX6_feet_105 : decode cX6_feet 105 = .ok (.getfield 18, 3) := by decide +kernel
theorem dX6_feet_108 : decode cX6_feet 108 = .ok (.iload_n 1, 1) := by decide +kernel
theorem dX6_feet_109 : decode cX6_feet 109 = .ok (.iconst 1, 1) := by decide +kernel
theorem dX6_feet_110 : decode cX6_feet 110 = .ok (.isub, 1) := by decide +kernel
theorem dX6_feet_111 : decode cX6_feet 111 = .ok (.iload_n 3, 1) := by decide +kernel
theorem dX6_feet_112 : decode cX6_feet 112 = .ok (.ineg, 1) := by decide +kernel
theorem dX6_feet_113 : decode cX6_feet 113 = .ok (.aload_n 0, 1) := by decide +kernel
theorem dX6_feet_114 : decode cX6_feet 114 = .ok (.getfield 18, 3) := by decide +kernel
theorem dX6_feet_117 : decode cX6_feet 117 = .ok (.iload_n 1, 1) := by decide +kernel
theorem dX6_feet_118 : decode cX6_feet 118 = .ok (.iconst 1, 1) := by decide +kernel
theorem dX6_feet_119 : decode cX6_feet 119 = .ok (.isub, 1) := by decide +kernel
theorem dX6_feet_120 : decode cX6_feet 120 = .ok (.iaload, 1) := by decide +kernel
theorem dX6_feet_121 : decode cX6_feet 121 = .ok (.aload_n 0, 1) := by decide +kernel
theorem dX6_feet_122 : decode cX6_feet 122 = .ok (.getfield 18, 3) := by decide +kernel
theorem dX6_feet_125 : decode cX6_feet 125 = .ok (.iload_n 1, 1) := by decide +kernel
theorem dX6_feet_126 : decode cX6_feet 126 = .ok (.iaload, 1) := by decide +kernel
theorem dX6_feet_127 : decode cX6_feet 127 = .ok (.invokestatic 77, 3) := by decide +kernel
theorem dX6_feet_130 : decode cX6_feet 130 = .ok (.iastore, 1) := by decide +kernel
theorem dX6_feet_131 : decode cX6_feet 131 = .ok (.iinc 2 1, 3) := by decide +kernel
theorem dX6_feet_134 : decode cX6_feet 134 = .ok (.goto (-130), 3) := by decide +kernel
theorem dX6_feet_137 : decode cX6_feet 137 = .ok (.iconst 0, 1) := by decide +kernel
theorem dX6_feet_138 : decode cX6_feet 138 = .ok (.bipush 20, 2) := by decide +kernel
theorem dX6_feet_140 : decode cX6_feet 140 = .ok (.aload_n 0, 1) := by decide +kernel
theorem dX6_feet_141 : decode cX6_feet 141 = .ok (.getfield 18, 3) := by decide +kernel
theorem dX6_feet_144 : decode cX6_feet 144 = .ok (.iconst 0, 1) := by decide +kernel
theorem dX6_feet_145 : decode cX6_feet 145 = .ok (.iaload, 1) := by decide +kernel
theorem dX6_feet_146 : decode cX6_feet 146 = .ok (.invokestatic 81, 3) := by decide +kernel
theorem dX6_feet_149 : decode cX6_feet 149 = .ok (.invokestatic 87, 3) := by decide +kernel
theorem dX6_feet_152 : decode cX6_feet 152 = .ok (.ireturn, 1) := by decide +kernel
section Walk
variable {p : Program} {l : Launch} {e : Env} {s : State} {m : MethodId} {args : Array Value} {below : List Frame} {meth : Method} {c : Code} {G : GG} {B : Nat}
set_option maxHeartbeats 1000000 in
set_option maxRecDepth 10000 in
theorem mX6_emit (l : Launch) {G : GG} {B : Nat} {a0 : Nat} {x1 : Int32} (h0 : a0 ∈ rules) {M : Mem} {q : Mem} (hf : fX6_emit a0 x1 M = some q) : Met l yX6_emit (wsG yX6_emit cX6_emit 2 none) (rmN (2)) (PcW Ph G B 205 M [.ref (B + a0), .int x1]) (QcV Ph G B 205 q) 0 0 (fr B) := by
  refine mk_Met (own := RX6) rfl rfl (Nat.le_of_ble_eq_true rfl) ?_
  intro p e s m below meth c ls cx hr hlk wo hl
  have hl : lv_has ls 2 [(0, .ref (B + a0)), (1, .int x1)] := hl
  unfold fX6_emit at hf
  refine lv_aload_n cx.1 cx.2.1 dX6_emit_0 rfl (lv_at hl 0 rfl) ?_
  refine r_getI cx wo (rul_ok _ h0).1.1 (rul_ok _ h0).1.2.1 (rul_ok _ h0).1.2.2 fiX6_28 dX6_emit_1 ?_
  refine lv_bipush (v := 40) cx.1 cx.2.1 dX6_emit_4 (by decide) ?_
  refine lv_icmp_ge (tgt := 29) cx.1 cx.2.1 dX6_emit_6 (by decide) (fun c1 => ?_) (fun c1 => ?_)
  · rw [if_pos c1] at hf
    have hq := Option.some.inj hf
    subst hq
    exact r_vret cx wo hr hlk dX6_emit_29
  · rw [if_neg c1] at hf
    refine lv_aload_n cx.1 cx.2.1 dX6_emit_9 rfl (lv_at hl 0 rfl) ?_
    refine r_getR cx wo (rul_ok _ h0).1.1 (rul_ok _ h0).1.2.1 (rul_ok _ h0).1.2.2 fiX6_11 (ru_fn0 wo.2.2.2.1 h0) (by omega) dX6_emit_10 ?_
    refine lv_aload_n cx.1 cx.2.1 dX6_emit_13 rfl (lv_at hl 0 rfl) ?_
    refine r_getI cx wo (rul_ok _ h0).1.1 (rul_ok _ h0).1.2.1 (rul_ok _ h0).1.2.2 fiX6_28 dX6_emit_14 ?_
    refine lv_iload_n cx.1 cx.2.1 dX6_emit_17 rfl (lv_at hl 1 rfl) ?_
    obtain ⟨g2, hf⟩ := gd_elim hf
    obtain ⟨M3, e4, hf⟩ := lt_elim hf
    refine r_iast cx wo (ruA1 h0).1 (ruA1 h0).2.1 (ruA1 h0).2.2 (by rw [(ruL1 h0)]; exact g2) dX6_emit_18 (fun H locs wo => ?_)
    rw [← e4] at wo
    refine lv_aload_n cx.1 cx.2.1 dX6_emit_19 rfl (lv_at hl 0 rfl) ?_
    refine lv_dup cx.1 cx.2.1 dX6_emit_20 rfl ?_
    refine r_getI cx wo (rul_ok _ h0).1.1 (rul_ok _ h0).1.2.1 (rul_ok _ h0).1.2.2 fiX6_28 dX6_emit_21 ?_
    refine lv_iconst (v := 1) cx.1 cx.2.1 dX6_emit_24 (by decide) ?_
    refine lv_iadd cx.1 cx.2.1 dX6_emit_25 ?_
    obtain ⟨M5, e6, hf⟩ := lt_elim hf
    refine r_putI cx wo (rul_ok _ h0).1.1 (rul_ok _ h0).1.2.1 (rul_ok _ h0).1.2.2 fpX6_28 dX6_emit_26 (fun H locs wo => ?_)
    rw [← e6] at wo
    have hq := Option.some.inj hf
    subst hq
    exact r_vret cx wo hr hlk dX6_emit_29
set_option maxHeartbeats 1000000 in
set_option maxRecDepth 10000 in
theorem mX6_takeStandard (l : Launch) {G : GG} {B : Nat} {a0 : Nat} (h0 : a0 ∈ rules) {M : Mem} {q : Mem} (hf : fX6_takeStandard a0 M = some q) : Met l yX6_takeStandard (wsG yX6_takeStandard cX6_takeStandard 1 none) (rmN (3)) (PcW Ph G B 205 M [.ref (B + a0)]) (QcV Ph G B 205 q) 0 0 (fr B) := by
  refine mk_Met (own := RX6) rfl rfl (Nat.le_of_ble_eq_true rfl) ?_
  intro p e s m below meth c ls cx hr hlk wo hl
  have hl : lv_has ls 1 [(0, .ref (B + a0))] := hl
  unfold fX6_takeStandard at hf
  refine lv_aload_n cx.1 cx.2.1 dX6_takeStandard_0 rfl (lv_at hl 0 rfl) ?_
  refine lv_iconst (v := 0) cx.1 cx.2.1 dX6_takeStandard_1 (by decide) ?_
  obtain ⟨M1, e2, hf⟩ := lt_elim hf
  refine r_putI cx wo (rul_ok _ h0).1.1 (rul_ok _ h0).1.2.1 (rul_ok _ h0).1.2.2 fpX6_28 dX6_takeStandard_2 (fun H locs wo => ?_)
  rw [← e2] at wo
  refine lv_aload_n cx.1 cx.2.1 dX6_takeStandard_5 rfl (lv_at hl 0 rfl) ?_
  refine lv_iconst (v := 0) cx.1 cx.2.1 dX6_takeStandard_6 (by decide) ?_
  obtain ⟨M3, e4, hf⟩ := lt_elim hf
  refine r_putZ cx wo (rul_ok _ h0).1.1 (rul_ok _ h0).1.2.1 (rul_ok _ h0).1.2.2 fpX6_32 (Or.inl rfl) dX6_takeStandard_7 (fun H locs wo => ?_)
  rw [← e4] at wo
  refine lv_aload_n cx.1 cx.2.1 dX6_takeStandard_10 rfl (lv_at hl 0 rfl) ?_
  refine lv_iconst (v := (-1)) cx.1 cx.2.1 dX6_takeStandard_11 (by decide) ?_
  obtain ⟨q5, e6, hf⟩ := bd_elim hf
  refine r_Vv (rest := []) cx wo (mX6_emit l h0 e6) cvX6_36 rfl (rul_ok _ h0).1.1 (rul_ok _ h0).1.2.1 (rul_ok _ h0).1.2.2 rfl rfl hl.1 rfl (Nat.le_of_ble_eq_true rfl) (hR_ok (by decide)) dX6_takeStandard_12 (fun H locs wo => ?_)
  refine lv_aload_n cx.1 cx.2.1 dX6_takeStandard_15 rfl (lv_at hl 0 rfl) ?_
  refine lv_bipush (v := (-2)) cx.1 cx.2.1 dX6_takeStandard_16 (by decide) ?_
  obtain ⟨q7, e8, hf⟩ := bd_elim hf
  refine r_Vv (rest := []) cx wo (mX6_emit l h0 e8) cvX6_36 rfl (rul_ok _ h0).1.1 (rul_ok _ h0).1.2.1 (rul_ok _ h0).1.2.2 rfl rfl hl.1 rfl (Nat.le_of_ble_eq_true rfl) (hR_ok (by decide)) dX6_takeStandard_18 (fun H locs wo => ?_)
  refine lv_aload_n cx.1 cx.2.1 dX6_takeStandard_21 rfl (lv_at hl 0 rfl) ?_
  refine lv_iconst (v := 4) cx.1 cx.2.1 dX6_takeStandard_22 (by decide) ?_
  obtain ⟨q9, e10, hf⟩ := bd_elim hf
  refine r_Vv (rest := []) cx wo (mX6_emit l h0 e10) cvX6_36 rfl (rul_ok _ h0).1.1 (rul_ok _ h0).1.2.1 (rul_ok _ h0).1.2.2 rfl rfl hl.1 rfl (Nat.le_of_ble_eq_true rfl) (hR_ok (by decide)) dX6_takeStandard_23 (fun H locs wo => ?_)
  refine lv_aload_n cx.1 cx.2.1 dX6_takeStandard_26 rfl (lv_at hl 0 rfl) ?_
  refine lv_bipush (v := (-47)) cx.1 cx.2.1 dX6_takeStandard_27 (by decide) ?_
  obtain ⟨q11, e12, hf⟩ := bd_elim hf
  refine r_Vv (rest := []) cx wo (mX6_emit l h0 e12) cvX6_36 rfl (rul_ok _ h0).1.1 (rul_ok _ h0).1.2.1 (rul_ok _ h0).1.2.2 rfl rfl hl.1 rfl (Nat.le_of_ble_eq_true rfl) (hR_ok (by decide)) dX6_takeStandard_29 (fun H locs wo => ?_)
  refine lv_aload_n cx.1 cx.2.1 dX6_takeStandard_32 rfl (lv_at hl 0 rfl) ?_
  refine lv_bipush (v := (-45)) cx.1 cx.2.1 dX6_takeStandard_33 (by decide) ?_
  obtain ⟨q13, e14, hf⟩ := bd_elim hf
  refine r_Vv (rest := []) cx wo (mX6_emit l h0 e14) cvX6_36 rfl (rul_ok _ h0).1.1 (rul_ok _ h0).1.2.1 (rul_ok _ h0).1.2.2 rfl rfl hl.1 rfl (Nat.le_of_ble_eq_true rfl) (hR_ok (by decide)) dX6_takeStandard_35 (fun H locs wo => ?_)
  have hq := Option.some.inj hf
  subst hq
  exact r_vret cx wo hr hlk dX6_takeStandard_38
set_option maxHeartbeats 1000000 in
set_option maxRecDepth 10000 in
theorem mX6_peek (l : Launch) {G : GG} {B : Nat} {a0 : Nat} (h0 : a0 ∈ rules) {M : Mem} {q : Int32 × Mem} (hf : fX6_peek a0 M = some q) : Met l yX6_peek (wsG yX6_peek cX6_peek 1 (some .int)) (rmN (2)) (PcW Ph G B 205 M [.ref (B + a0)]) (QcI Ph G B 205 q.1 q.2) 0 0 (fr B) := by
  refine mk_Met (own := RX6) rfl rfl (Nat.le_of_ble_eq_true rfl) ?_
  intro p e s m below meth c ls cx hr hlk wo hl
  have hl : lv_has ls 1 [(0, .ref (B + a0))] := hl
  unfold fX6_peek at hf
  refine lv_aload_n cx.1 cx.2.1 dX6_peek_0 rfl (lv_at hl 0 rfl) ?_
  refine r_getI cx wo (rul_ok _ h0).1.1 (rul_ok _ h0).1.2.1 (rul_ok _ h0).1.2.2 fiX6_43 dX6_peek_1 ?_
  refine lv_bipush (v := 40) cx.1 cx.2.1 dX6_peek_4 (by decide) ?_
  refine lv_icmp_ge (tgt := 38) cx.1 cx.2.1 dX6_peek_6 (by decide) (fun c1 => ?_) (fun c1 => ?_)
  · rw [if_pos c1] at hf
    refine lv_iconst (v := (-1)) cx.1 cx.2.1 dX6_peek_38 (by decide) ?_
    have hq := Option.some.inj hf
    subst hq
    exact r_iret cx wo hr hlk dX6_peek_39
  · rw [if_neg c1] at hf
    refine lv_aload_n cx.1 cx.2.1 dX6_peek_9 rfl (lv_at hl 0 rfl) ?_
    refine r_getI cx wo (rul_ok _ h0).1.1 (rul_ok _ h0).1.2.1 (rul_ok _ h0).1.2.2 fiX6_43 dX6_peek_10 ?_
    refine lv_aload_n cx.1 cx.2.1 dX6_peek_13 rfl (lv_at hl 0 rfl) ?_
    refine r_getR cx wo (rul_ok _ h0).1.1 (rul_ok _ h0).1.2.1 (rul_ok _ h0).1.2.2 fiX6_21 (ru_fn5 wo.2.2.2.1 h0) (by decide) dX6_peek_14 ?_
    refine r_getI cx wo ad_2.1 ad_2.2.1 ad_2.2.2 fiX6_40 dX6_peek_17 ?_
    refine lv_icmp_ge (tgt := 38) cx.1 cx.2.1 dX6_peek_20 (by decide) (fun c2 => ?_) (fun c2 => ?_)
    · rw [if_pos c2] at hf
      refine lv_iconst (v := (-1)) cx.1 cx.2.1 dX6_peek_38 (by decide) ?_
      have hq := Option.some.inj hf
      subst hq
      exact r_iret cx wo hr hlk dX6_peek_39
    · rw [if_neg c2] at hf
      refine lv_aload_n cx.1 cx.2.1 dX6_peek_23 rfl (lv_at hl 0 rfl) ?_
      refine r_getR cx wo (rul_ok _ h0).1.1 (rul_ok _ h0).1.2.1 (rul_ok _ h0).1.2.2 fiX6_21 (ru_fn5 wo.2.2.2.1 h0) (by decide) dX6_peek_24 ?_
      refine r_getR cx wo ad_2.1 ad_2.2.1 ad_2.2.2 fiX6_50 (fn_2_0 wo.2.2.2.1) (by decide) dX6_peek_27 ?_
      refine lv_aload_n cx.1 cx.2.1 dX6_peek_30 rfl (lv_at hl 0 rfl) ?_
      refine r_getI cx wo (rul_ok _ h0).1.1 (rul_ok _ h0).1.2.1 (rul_ok _ h0).1.2.2 fiX6_43 dX6_peek_31 ?_
      obtain ⟨g3, hf⟩ := gd_elim hf
      refine r_iald cx wo ad_3.1 ad_3.2.1 ad_3.2.2 (by rw [ln_3]; exact g3) dX6_peek_34 ?_
      refine lv_goto (tgt := 39) cx.1 cx.2.1 dX6_peek_35 (by decide) ?_
      have hq := Option.some.inj hf
      subst hq
      exact r_iret cx wo hr hlk dX6_peek_39
set_option maxHeartbeats 1000000 in
set_option maxRecDepth 10000 in
theorem mX6_readInner (l : Launch) {G : GG} {B : Nat} {K : Nat} (hK : 16 ≤ K) {rc : Nat → Int32 → Mem → Option (Int32 × Mem)} (hrc : ∀ {a0 : Nat} {x1 : Int32} {M : Mem} {q : Int32 × Mem} (h0 : a0 ∈ rules), rc a0 x1 M = some q → Met l yX6_readExpression (wsG yX6_readExpression cX6_readExpression 3 (some .boolean)) (rmN (K)) (PcW Ph G B 205 M [.ref (B + a0), .int x1]) (QcI Ph G B 205 q.1 q.2) 0 0 (fr B)) {a0 : Nat} {x1 : Int32} (h0 : a0 ∈ rules) {M : Mem} {q : Int32 × Mem} (hf : fX6_readInner rc a0 x1 M = some q) : Met l yX6_readInner (wsG yX6_readInner cX6_readInner 2 (some .boolean)) (rmN (K + 1)) (PcW Ph G B 205 M [.ref (B + a0), .int x1]) (QcI Ph G B 205 q.1 q.2) 0 0 (fr B) := by
  refine mk_Met (own := RX6) rfl rfl (Nat.le_of_ble_eq_true rfl) ?_
  intro p e s m below meth c ls cx hr hlk wo hl
  have hl : lv_has ls 2 [(0, .ref (B + a0)), (1, .int x1)] := hl
  unfold fX6_readInner at hf
  refine lv_iload_n cx.1 cx.2.1 dX6_readInner_0 rfl (lv_at hl 1 rfl) ?_
  refine lv_iconst (v := 4) cx.1 cx.2.1 dX6_readInner_1 (by decide) ?_
  refine lv_icmp_le (tgt := 7) cx.1 cx.2.1 dX6_readInner_2 (by decide) (fun c1 => ?_) (fun c1 => ?_)
  · rw [if_pos c1] at hf
    refine lv_aload_n cx.1 cx.2.1 dX6_readInner_7 rfl (lv_at hl 0 rfl) ?_
    refine lv_dup cx.1 cx.2.1 dX6_readInner_8 rfl ?_
    refine r_getI cx wo (rul_ok _ h0).1.1 (rul_ok _ h0).1.2.1 (rul_ok _ h0).1.2.2 fiX6_43 dX6_readInner_9 ?_
    refine lv_iconst (v := 1) cx.1 cx.2.1 dX6_readInner_12 (by decide) ?_
    refine lv_iadd cx.1 cx.2.1 dX6_readInner_13 ?_
    obtain ⟨M2, e3, hf⟩ := lt_elim hf
    refine r_putI cx wo (rul_ok _ h0).1.1 (rul_ok _ h0).1.2.1 (rul_ok _ h0).1.2.2 fpX6_43 dX6_readInner_14 (fun H locs wo => ?_)
    rw [← e3] at wo
    refine lv_aload_n cx.1 cx.2.1 dX6_readInner_17 rfl (lv_at hl 0 rfl) ?_
    refine lv_iload_n cx.1 cx.2.1 dX6_readInner_18 rfl (lv_at hl 1 rfl) ?_
    obtain ⟨q4, e5, hf⟩ := bd_elim hf
    refine r_Vi (rest := []) cx wo (hrc h0 e5) cvX6_46 rfl (rul_ok _ h0).1.1 (rul_ok _ h0).1.2.1 (rul_ok _ h0).1.2.2 rfl rfl hl.1 rfl (Nat.le_of_ble_eq_true rfl) (hR_ok (by omega)) dX6_readInner_19 (fun H locs wo => ?_)
    refine lv_if_eq (tgt := 34) cx.1 cx.2.1 dX6_readInner_22 (by decide) (fun c6 => ?_) (fun c6 => ?_)
    · rw [if_pos c6] at hf
      refine lv_iconst (v := 0) cx.1 cx.2.1 dX6_readInner_34 (by decide) ?_
      have hq := Option.some.inj hf
      subst hq
      exact r_zret cx wo hr hlk (Or.inl rfl) dX6_readInner_35
    · rw [if_neg c6] at hf
      refine lv_aload_n cx.1 cx.2.1 dX6_readInner_25 rfl (lv_at hl 0 rfl) ?_
      obtain ⟨q7, e8, hf⟩ := bd_elim hf
      refine r_Vi (rest := []) cx wo (mX6_peek l h0 e8) cvX6_56 rfl (rul_ok _ h0).1.1 (rul_ok _ h0).1.2.1 (rul_ok _ h0).1.2.2 rfl rfl hl.1 rfl (Nat.le_of_ble_eq_true rfl) (hR_ok (by omega)) dX6_readInner_26 (fun H locs wo => ?_)
      refine lv_bipush (v := 41) cx.1 cx.2.1 dX6_readInner_29 (by decide) ?_
      refine lv_icmp_eq (tgt := 36) cx.1 cx.2.1 dX6_readInner_31 (by decide) (fun c9 => ?_) (fun c9 => ?_)
      · rw [if_pos c9] at hf
        refine lv_aload_n cx.1 cx.2.1 dX6_readInner_36 rfl (lv_at hl 0 rfl) ?_
        refine lv_dup cx.1 cx.2.1 dX6_readInner_37 rfl ?_
        refine r_getI cx wo (rul_ok _ h0).1.1 (rul_ok _ h0).1.2.1 (rul_ok _ h0).1.2.2 fiX6_43 dX6_readInner_38 ?_
        refine lv_iconst (v := 1) cx.1 cx.2.1 dX6_readInner_41 (by decide) ?_
        refine lv_iadd cx.1 cx.2.1 dX6_readInner_42 ?_
        obtain ⟨M10, e11, hf⟩ := lt_elim hf
        refine r_putI cx wo (rul_ok _ h0).1.1 (rul_ok _ h0).1.2.1 (rul_ok _ h0).1.2.2 fpX6_43 dX6_readInner_43 (fun H locs wo => ?_)
        rw [← e11] at wo
        refine lv_iconst (v := 1) cx.1 cx.2.1 dX6_readInner_46 (by decide) ?_
        have hq := Option.some.inj hf
        subst hq
        exact r_zret cx wo hr hlk (Or.inr rfl) dX6_readInner_47
      · rw [if_neg c9] at hf
        refine lv_iconst (v := 0) cx.1 cx.2.1 dX6_readInner_34 (by decide) ?_
        have hq := Option.some.inj hf
        subst hq
        exact r_zret cx wo hr hlk (Or.inl rfl) dX6_readInner_35
  · rw [if_neg c1] at hf
    refine lv_iconst (v := 0) cx.1 cx.2.1 dX6_readInner_5 (by decide) ?_
    have hq := Option.some.inj hf
    subst hq
    exact r_zret cx wo hr hlk (Or.inl rfl) dX6_readInner_6
set_option maxHeartbeats 1000000 in
set_option maxRecDepth 10000 in
theorem mX6_thingOf (l : Launch) {G : GG} {B : Nat} {x0 : Int32}  {M : Mem} {q : Int32 × Mem} (hf : fX6_thingOf x0 M = some q) : Met l yX6_thingOf (wsG yX6_thingOf cX6_thingOf 1 (some .int)) (rmN (2)) (PcW Ph G B 205 M [.int x0]) (QcI Ph G B 205 q.1 q.2) 0 0 (fr B) := by
  refine mk_Met (own := RX6) rfl rfl (Nat.le_of_ble_eq_true rfl) ?_
  intro p e s m below meth c ls cx hr hlk wo hl
  have hl : lv_has ls 1 [(0, .int x0)] := hl
  unfold fX6_thingOf at hf
  refine lv_iload_n cx.1 cx.2.1 dX6_thingOf_0 rfl (lv_at hl 0 rfl) ?_
  by_cases c1 : x0 = 98
  · refine r_tin (tgt := 118) cx c1 dX6_thingOf_1 (by decide) (by decide) rfl (by decide) ?_
    rw [if_pos c1] at hf
    refine lv_iconst (v := 5) cx.1 cx.2.1 dX6_thingOf_118 (by decide) ?_
    have hq := Option.some.inj hf
    subst hq
    exact r_iret cx wo hr hlk dX6_thingOf_119
  · rw [if_neg c1] at hf
    by_cases c2 : x0 = 99
    · refine r_tin (tgt := 123) cx c2 dX6_thingOf_1 (by decide) (by decide) rfl (by decide) ?_
      rw [if_pos c2] at hf
      refine lv_iconst (v := (-1)) cx.1 cx.2.1 dX6_thingOf_123 (by decide) ?_
      have hq := Option.some.inj hf
      subst hq
      exact r_iret cx wo hr hlk dX6_thingOf_124
    · rw [if_neg c2] at hf
      by_cases c3 : x0 = 100
      · refine r_tin (tgt := 123) cx c3 dX6_thingOf_1 (by decide) (by decide) rfl (by decide) ?_
        rw [if_pos c3] at hf
        refine lv_iconst (v := (-1)) cx.1 cx.2.1 dX6_thingOf_123 (by decide) ?_
        have hq := Option.some.inj hf
        subst hq
        exact r_iret cx wo hr hlk dX6_thingOf_124
      · rw [if_neg c3] at hf
        by_cases c4 : x0 = 101
        · refine r_tin (tgt := 123) cx c4 dX6_thingOf_1 (by decide) (by decide) rfl (by decide) ?_
          rw [if_pos c4] at hf
          refine lv_iconst (v := (-1)) cx.1 cx.2.1 dX6_thingOf_123 (by decide) ?_
          have hq := Option.some.inj hf
          subst hq
          exact r_iret cx wo hr hlk dX6_thingOf_124
        · rw [if_neg c4] at hf
          by_cases c5 : x0 = 102
          · refine r_tin (tgt := 123) cx c5 dX6_thingOf_1 (by decide) (by decide) rfl (by decide) ?_
            rw [if_pos c5] at hf
            refine lv_iconst (v := (-1)) cx.1 cx.2.1 dX6_thingOf_123 (by decide) ?_
            have hq := Option.some.inj hf
            subst hq
            exact r_iret cx wo hr hlk dX6_thingOf_124
          · rw [if_neg c5] at hf
            by_cases c6 : x0 = 103
            · refine r_tin (tgt := 116) cx c6 dX6_thingOf_1 (by decide) (by decide) rfl (by decide) ?_
              rw [if_pos c6] at hf
              refine lv_iconst (v := 4) cx.1 cx.2.1 dX6_thingOf_116 (by decide) ?_
              have hq := Option.some.inj hf
              subst hq
              exact r_iret cx wo hr hlk dX6_thingOf_117
            · rw [if_neg c6] at hf
              by_cases c7 : x0 = 104
              · refine r_tin (tgt := 123) cx c7 dX6_thingOf_1 (by decide) (by decide) rfl (by decide) ?_
                rw [if_pos c7] at hf
                refine lv_iconst (v := (-1)) cx.1 cx.2.1 dX6_thingOf_123 (by decide) ?_
                have hq := Option.some.inj hf
                subst hq
                exact r_iret cx wo hr hlk dX6_thingOf_124
              · rw [if_neg c7] at hf
                by_cases c8 : x0 = 105
                · refine r_tin (tgt := 114) cx c8 dX6_thingOf_1 (by decide) (by decide) rfl (by decide) ?_
                  rw [if_pos c8] at hf
                  refine lv_iconst (v := 3) cx.1 cx.2.1 dX6_thingOf_114 (by decide) ?_
                  have hq := Option.some.inj hf
                  subst hq
                  exact r_iret cx wo hr hlk dX6_thingOf_115
                · rw [if_neg c8] at hf
                  by_cases c9 : x0 = 106
                  · refine r_tin (tgt := 123) cx c9 dX6_thingOf_1 (by decide) (by decide) rfl (by decide) ?_
                    rw [if_pos c9] at hf
                    refine lv_iconst (v := (-1)) cx.1 cx.2.1 dX6_thingOf_123 (by decide) ?_
                    have hq := Option.some.inj hf
                    subst hq
                    exact r_iret cx wo hr hlk dX6_thingOf_124
                  · rw [if_neg c9] at hf
                    by_cases c10 : x0 = 107
                    · refine r_tin (tgt := 123) cx c10 dX6_thingOf_1 (by decide) (by decide) rfl (by decide) ?_
                      rw [if_pos c10] at hf
                      refine lv_iconst (v := (-1)) cx.1 cx.2.1 dX6_thingOf_123 (by decide) ?_
                      have hq := Option.some.inj hf
                      subst hq
                      exact r_iret cx wo hr hlk dX6_thingOf_124
                    · rw [if_neg c10] at hf
                      by_cases c11 : x0 = 108
                      · refine r_tin (tgt := 123) cx c11 dX6_thingOf_1 (by decide) (by decide) rfl (by decide) ?_
                        rw [if_pos c11] at hf
                        refine lv_iconst (v := (-1)) cx.1 cx.2.1 dX6_thingOf_123 (by decide) ?_
                        have hq := Option.some.inj hf
                        subst hq
                        exact r_iret cx wo hr hlk dX6_thingOf_124
                      · rw [if_neg c11] at hf
                        by_cases c12 : x0 = 109
                        · refine r_tin (tgt := 123) cx c12 dX6_thingOf_1 (by decide) (by decide) rfl (by decide) ?_
                          rw [if_pos c12] at hf
                          refine lv_iconst (v := (-1)) cx.1 cx.2.1 dX6_thingOf_123 (by decide) ?_
                          have hq := Option.some.inj hf
                          subst hq
                          exact r_iret cx wo hr hlk dX6_thingOf_124
                        · rw [if_neg c12] at hf
                          by_cases c13 : x0 = 110
                          · refine r_tin (tgt := 120) cx c13 dX6_thingOf_1 (by decide) (by decide) rfl (by decide) ?_
                            rw [if_pos c13] at hf
                            refine lv_bipush (v := 6) cx.1 cx.2.1 dX6_thingOf_120 (by decide) ?_
                            have hq := Option.some.inj hf
                            subst hq
                            exact r_iret cx wo hr hlk dX6_thingOf_122
                          · rw [if_neg c13] at hf
                            by_cases c14 : x0 = 111
                            · refine r_tin (tgt := 123) cx c14 dX6_thingOf_1 (by decide) (by decide) rfl (by decide) ?_
                              rw [if_pos c14] at hf
                              refine lv_iconst (v := (-1)) cx.1 cx.2.1 dX6_thingOf_123 (by decide) ?_
                              have hq := Option.some.inj hf
                              subst hq
                              exact r_iret cx wo hr hlk dX6_thingOf_124
                            · rw [if_neg c14] at hf
                              by_cases c15 : x0 = 112
                              · refine r_tin (tgt := 108) cx c15 dX6_thingOf_1 (by decide) (by decide) rfl (by decide) ?_
                                rw [if_pos c15] at hf
                                refine lv_iconst (v := 0) cx.1 cx.2.1 dX6_thingOf_108 (by decide) ?_
                                have hq := Option.some.inj hf
                                subst hq
                                exact r_iret cx wo hr hlk dX6_thingOf_109
                              · rw [if_neg c15] at hf
                                by_cases c16 : x0 = 113
                                · refine r_tin (tgt := 123) cx c16 dX6_thingOf_1 (by decide) (by decide) rfl (by decide) ?_
                                  rw [if_pos c16] at hf
                                  refine lv_iconst (v := (-1)) cx.1 cx.2.1 dX6_thingOf_123 (by decide) ?_
                                  have hq := Option.some.inj hf
                                  subst hq
                                  exact r_iret cx wo hr hlk dX6_thingOf_124
                                · rw [if_neg c16] at hf
                                  by_cases c17 : x0 = 114
                                  · refine r_tin (tgt := 123) cx c17 dX6_thingOf_1 (by decide) (by decide) rfl (by decide) ?_
                                    rw [if_pos c17] at hf
                                    refine lv_iconst (v := (-1)) cx.1 cx.2.1 dX6_thingOf_123 (by decide) ?_
                                    have hq := Option.some.inj hf
                                    subst hq
                                    exact r_iret cx wo hr hlk dX6_thingOf_124
                                  · rw [if_neg c17] at hf
                                    by_cases c18 : x0 = 115
                                    · refine r_tin (tgt := 123) cx c18 dX6_thingOf_1 (by decide) (by decide) rfl (by decide) ?_
                                      rw [if_pos c18] at hf
                                      refine lv_iconst (v := (-1)) cx.1 cx.2.1 dX6_thingOf_123 (by decide) ?_
                                      have hq := Option.some.inj hf
                                      subst hq
                                      exact r_iret cx wo hr hlk dX6_thingOf_124
                                    · rw [if_neg c18] at hf
                                      by_cases c19 : x0 = 116
                                      · refine r_tin (tgt := 112) cx c19 dX6_thingOf_1 (by decide) (by decide) rfl (by decide) ?_
                                        rw [if_pos c19] at hf
                                        refine lv_iconst (v := 2) cx.1 cx.2.1 dX6_thingOf_112 (by decide) ?_
                                        have hq := Option.some.inj hf
                                        subst hq
                                        exact r_iret cx wo hr hlk dX6_thingOf_113
                                      · rw [if_neg c19] at hf
                                        by_cases c20 : x0 = 117
                                        · refine r_tin (tgt := 123) cx c20 dX6_thingOf_1 (by decide) (by decide) rfl (by decide) ?_
                                          rw [if_pos c20] at hf
                                          refine lv_iconst (v := (-1)) cx.1 cx.2.1 dX6_thingOf_123 (by decide) ?_
                                          have hq := Option.some.inj hf
                                          subst hq
                                          exact r_iret cx wo hr hlk dX6_thingOf_124
                                        · rw [if_neg c20] at hf
                                          by_cases c21 : x0 = 118
                                          · refine r_tin (tgt := 123) cx c21 dX6_thingOf_1 (by decide) (by decide) rfl (by decide) ?_
                                            rw [if_pos c21] at hf
                                            refine lv_iconst (v := (-1)) cx.1 cx.2.1 dX6_thingOf_123 (by decide) ?_
                                            have hq := Option.some.inj hf
                                            subst hq
                                            exact r_iret cx wo hr hlk dX6_thingOf_124
                                          · rw [if_neg c21] at hf
                                            by_cases c22 : x0 = 119
                                            · refine r_tin (tgt := 123) cx c22 dX6_thingOf_1 (by decide) (by decide) rfl (by decide) ?_
                                              rw [if_pos c22] at hf
                                              refine lv_iconst (v := (-1)) cx.1 cx.2.1 dX6_thingOf_123 (by decide) ?_
                                              have hq := Option.some.inj hf
                                              subst hq
                                              exact r_iret cx wo hr hlk dX6_thingOf_124
                                            · rw [if_neg c22] at hf
                                              by_cases c23 : x0 = 120
                                              · refine r_tin (tgt := 110) cx c23 dX6_thingOf_1 (by decide) (by decide) rfl (by decide) ?_
                                                rw [if_pos c23] at hf
                                                refine lv_iconst (v := 1) cx.1 cx.2.1 dX6_thingOf_110 (by decide) ?_
                                                have hq := Option.some.inj hf
                                                subst hq
                                                exact r_iret cx wo hr hlk dX6_thingOf_111
                                              · rw [if_neg c23] at hf
                                                have nc1 := i_ne (n := 98) c1 (by decide)
                                                have mc1 : ¬ (98 : Int) = x0.toInt := fun h => nc1 h.symm
                                                have nc2 := i_ne (n := 99) c2 (by decide)
                                                have mc2 : ¬ (99 : Int) = x0.toInt := fun h => nc2 h.symm
                                                have nc3 := i_ne (n := 100) c3 (by decide)
                                                have mc3 : ¬ (100 : Int) = x0.toInt := fun h => nc3 h.symm
                                                have nc4 := i_ne (n := 101) c4 (by decide)
                                                have mc4 : ¬ (101 : Int) = x0.toInt := fun h => nc4 h.symm
                                                have nc5 := i_ne (n := 102) c5 (by decide)
                                                have mc5 : ¬ (102 : Int) = x0.toInt := fun h => nc5 h.symm
                                                have nc6 := i_ne (n := 103) c6 (by decide)
                                                have mc6 : ¬ (103 : Int) = x0.toInt := fun h => nc6 h.symm
                                                have nc7 := i_ne (n := 104) c7 (by decide)
                                                have mc7 : ¬ (104 : Int) = x0.toInt := fun h => nc7 h.symm
                                                have nc8 := i_ne (n := 105) c8 (by decide)
                                                have mc8 : ¬ (105 : Int) = x0.toInt := fun h => nc8 h.symm
                                                have nc9 := i_ne (n := 106) c9 (by decide)
                                                have mc9 : ¬ (106 : Int) = x0.toInt := fun h => nc9 h.symm
                                                have nc10 := i_ne (n := 107) c10 (by decide)
                                                have mc10 : ¬ (107 : Int) = x0.toInt := fun h => nc10 h.symm
                                                have nc11 := i_ne (n := 108) c11 (by decide)
                                                have mc11 : ¬ (108 : Int) = x0.toInt := fun h => nc11 h.symm
                                                have nc12 := i_ne (n := 109) c12 (by decide)
                                                have mc12 : ¬ (109 : Int) = x0.toInt := fun h => nc12 h.symm
                                                have nc13 := i_ne (n := 110) c13 (by decide)
                                                have mc13 : ¬ (110 : Int) = x0.toInt := fun h => nc13 h.symm
                                                have nc14 := i_ne (n := 111) c14 (by decide)
                                                have mc14 : ¬ (111 : Int) = x0.toInt := fun h => nc14 h.symm
                                                have nc15 := i_ne (n := 112) c15 (by decide)
                                                have mc15 : ¬ (112 : Int) = x0.toInt := fun h => nc15 h.symm
                                                have nc16 := i_ne (n := 113) c16 (by decide)
                                                have mc16 : ¬ (113 : Int) = x0.toInt := fun h => nc16 h.symm
                                                have nc17 := i_ne (n := 114) c17 (by decide)
                                                have mc17 : ¬ (114 : Int) = x0.toInt := fun h => nc17 h.symm
                                                have nc18 := i_ne (n := 115) c18 (by decide)
                                                have mc18 : ¬ (115 : Int) = x0.toInt := fun h => nc18 h.symm
                                                have nc19 := i_ne (n := 116) c19 (by decide)
                                                have mc19 : ¬ (116 : Int) = x0.toInt := fun h => nc19 h.symm
                                                have nc20 := i_ne (n := 117) c20 (by decide)
                                                have mc20 : ¬ (117 : Int) = x0.toInt := fun h => nc20 h.symm
                                                have nc21 := i_ne (n := 118) c21 (by decide)
                                                have mc21 : ¬ (118 : Int) = x0.toInt := fun h => nc21 h.symm
                                                have nc22 := i_ne (n := 119) c22 (by decide)
                                                have mc22 : ¬ (119 : Int) = x0.toInt := fun h => nc22 h.symm
                                                have nc23 := i_ne (n := 120) c23 (by decide)
                                                have mc23 : ¬ (120 : Int) = x0.toInt := fun h => nc23 h.symm
                                                refine lv_tableOut (tgt := 123) cx.1 cx.2.1 dX6_thingOf_1 (by omega) (by decide) ?_
                                                refine lv_iconst (v := (-1)) cx.1 cx.2.1 dX6_thingOf_123 (by decide) ?_
                                                have hq := Option.some.inj hf
                                                subst hq
                                                exact r_iret cx wo hr hlk dX6_thingOf_124
set_option maxHeartbeats 1000000 in
set_option maxRecDepth 10000 in
theorem wX6_readThing_125 (cx : Cx p s m args c cX6_readThing 5 RX6 G) (hr : meth.sig.returnType = (some .boolean)) (hlk : meth.locks = false) : ∀ (a0 : Nat) (x2 : Int32) (x3 : Int32) (h0 : a0 ∈ rules) (M : Mem) (q : Int32 × Mem), fX6_readThing_125 a0 x2 x3 M = some q → ∀ (H : Heap) (locs : List Loc) (ls : Array Slot), Wo Ph G B 205 s M H locs → lv_has ls 5 [(0, .ref (B + a0)), (2, .int x2), (3, .int x3)] → W p l e (rmN (3)) s m args below meth c H locs 0 0 (MQ below (QcI Ph G B 205 q.1 q.2) args s 0 0 (fr B)) (F0 m 125 ls []) := by
  intro a0 x2 x3 h0 M q hf H locs ls wo hl
  unfold fX6_readThing_125 at hf
  refine lv_aload_n cx.1 cx.2.1 dX6_readThing_125 rfl (lv_at hl 0 rfl) ?_
  refine lv_iload_n cx.1 cx.2.1 dX6_readThing_126 rfl (lv_at hl 1 rfl) ?_
  obtain ⟨q37, e38, hf⟩ := bd_elim hf
  refine r_Vv (rest := []) cx wo (mX6_emit l h0 e38) cvX6_36 rfl (rul_ok _ h0).1.1 (rul_ok _ h0).1.2.1 (rul_ok _ h0).1.2.2 rfl rfl hl.1 rfl (Nat.le_of_ble_eq_true rfl) (hR_ok (by decide)) dX6_readThing_127 (fun H locs wo => ?_)
  refine lv_iload_n cx.1 cx.2.1 dX6_readThing_130 rfl (lv_at hl 2 rfl) ?_
  refine lv_if_le (tgt := 138) cx.1 cx.2.1 dX6_readThing_131 (by decide) (fun c39 => ?_) (fun c39 => ?_)
  · rw [if_pos c39] at hf
    refine lv_iconst (v := 0) cx.1 cx.2.1 dX6_readThing_138 (by decide) ?_
    have hq := Option.some.inj hf
    subst hq
    exact r_zret cx wo hr hlk (Or.inl rfl) dX6_readThing_139
  · rw [if_neg c39] at hf
    refine lv_iconst (v := 1) cx.1 cx.2.1 dX6_readThing_134 (by decide) ?_
    refine lv_goto (tgt := 139) cx.1 cx.2.1 dX6_readThing_135 (by decide) ?_
    have hq := Option.some.inj hf
    subst hq
    exact r_zret cx wo hr hlk (Or.inr rfl) dX6_readThing_139
set_option maxHeartbeats 1000000 in
set_option maxRecDepth 10000 in
theorem wX6_readThing_69 (cx : Cx p s m args c cX6_readThing 5 RX6 G) (hr : meth.sig.returnType = (some .boolean)) (hlk : meth.locks = false) : ∀ (n : Nat) (a0 : Nat) (x2 : Int32) (x3 : Int32) (x4 : Int32) (h0 : a0 ∈ rules) (M : Mem) (q : Int32 × Mem), fX6_readThing_69 n a0 x2 x3 x4 M = some q → ∀ (H : Heap) (locs : List Loc) (ls : Array Slot), Wo Ph G B 205 s M H locs → lv_has ls 5 [(0, .ref (B + a0)), (2, .int x2), (3, .int x3), (4, .int x4)] → W p l e (rmN (3)) s m args below meth c H locs 0 0 (MQ below (QcI Ph G B 205 q.1 q.2) args s 0 0 (fr B)) (F0 m 69 ls []) := by
  intro n
  induction n with
  | zero =>
    intro a0 x2 x3 x4 h0 M q hf H locs ls wo hl
    have hf : none = some q := hf
    cases hf
  | succ n ih =>
    intro a0 x2 x3 x4 h0 M q hf H locs ls wo hl
    rw [fX6_readThing_69] at hf
    refine lv_iload cx.1 cx.2.1 dX6_readThing_69 (lv_at hl 3 rfl) ?_
    refine lv_iconst (v := 3) cx.1 cx.2.1 dX6_readThing_71 (by decide) ?_
    refine lv_icmp_ge (tgt := 125) cx.1 cx.2.1 dX6_readThing_72 (by decide) (fun c16 => ?_) (fun c16 => ?_)
    · rw [if_pos c16] at hf
      exact wX6_readThing_125 cx hr hlk _ _ _ h0 _ _ hf _ _ _ wo (lv_sub hl [0, 1, 2] rfl)
    · rw [if_neg c16] at hf
      refine lv_aload_n cx.1 cx.2.1 dX6_readThing_75 rfl (lv_at hl 0 rfl) ?_
      obtain ⟨q17, e18, hf⟩ := bd_elim hf
      refine r_Vi (rest := []) cx wo (mX6_peek l h0 e18) cvX6_56 rfl (rul_ok _ h0).1.1 (rul_ok _ h0).1.2.1 (rul_ok _ h0).1.2.2 rfl rfl hl.1 rfl (Nat.le_of_ble_eq_true rfl) (hR_ok (by decide)) dX6_readThing_76 (fun H locs wo => ?_)
      refine lv_bipush (v := 48) cx.1 cx.2.1 dX6_readThing_79 (by decide) ?_
      refine lv_icmp_lt (tgt := 125) cx.1 cx.2.1 dX6_readThing_81 (by decide) (fun c19 => ?_) (fun c19 => ?_)
      · rw [if_pos c19] at hf
        exact wX6_readThing_125 cx hr hlk _ _ _ h0 _ _ hf _ _ _ wo (lv_sub hl [0, 1, 2] rfl)
      · rw [if_neg c19] at hf
        refine lv_aload_n cx.1 cx.2.1 dX6_readThing_84 rfl (lv_at hl 0 rfl) ?_
        obtain ⟨q20, e21, hf⟩ := bd_elim hf
        refine r_Vi (rest := []) cx wo (mX6_peek l h0 e21) cvX6_56 rfl (rul_ok _ h0).1.1 (rul_ok _ h0).1.2.1 (rul_ok _ h0).1.2.2 rfl rfl hl.1 rfl (Nat.le_of_ble_eq_true rfl) (hR_ok (by decide)) dX6_readThing_85 (fun H locs wo => ?_)
        refine lv_bipush (v := 57) cx.1 cx.2.1 dX6_readThing_88 (by decide) ?_
        refine lv_icmp_gt (tgt := 125) cx.1 cx.2.1 dX6_readThing_90 (by decide) (fun c22 => ?_) (fun c22 => ?_)
        · rw [if_pos c22] at hf
          exact wX6_readThing_125 cx hr hlk _ _ _ h0 _ _ hf _ _ _ wo (lv_sub hl [0, 1, 2] rfl)
        · rw [if_neg c22] at hf
          refine lv_iload_n cx.1 cx.2.1 dX6_readThing_93 rfl (lv_at hl 1 rfl) ?_
          refine lv_bipush (v := 10) cx.1 cx.2.1 dX6_readThing_94 (by decide) ?_
          refine lv_imul cx.1 cx.2.1 dX6_readThing_96 ?_
          refine lv_aload_n cx.1 cx.2.1 dX6_readThing_97 rfl (lv_at hl 0 rfl) ?_
          obtain ⟨q23, e24, hf⟩ := bd_elim hf
          refine r_Vi (rest := [.int (x2 * 10)]) cx wo (mX6_peek l h0 e24) cvX6_56 rfl (rul_ok _ h0).1.1 (rul_ok _ h0).1.2.1 (rul_ok _ h0).1.2.2 rfl rfl hl.1 rfl (Nat.le_of_ble_eq_true rfl) (hR_ok (by decide)) dX6_readThing_98 (fun H locs wo => ?_)
          refine lv_iadd cx.1 cx.2.1 dX6_readThing_101 ?_
          refine lv_bipush (v := 48) cx.1 cx.2.1 dX6_readThing_102 (by decide) ?_
          refine lv_isub cx.1 cx.2.1 dX6_readThing_104 ?_
          obtain ⟨y25, e26, hf⟩ := lt_elim hf
          refine r_topi e26 ?_
          refine lv_istore_n (lv' := [(2, .int y25), (0, .ref (B + a0)), (3, .int x3), (4, .int x4)]) cx.1 cx.2.1 dX6_readThing_105 rfl hl (by decide) rfl (fun ls hl => ?_)
          obtain ⟨y27, e28, hf⟩ := lt_elim hf
          refine lv_iinc (v := y27) (lv' := [(3, .int y27), (2, .int y25), (0, .ref (B + a0)), (4, .int x4)]) cx.1 cx.2.1 dX6_readThing_106 hl (k := 2) rfl (by rw [e28]; rfl) (by decide) rfl (fun ls hl => ?_)
          refine lv_aload_n cx.1 cx.2.1 dX6_readThing_109 rfl (lv_at hl 2 rfl) ?_
          refine lv_dup cx.1 cx.2.1 dX6_readThing_110 rfl ?_
          refine r_getI cx wo (rul_ok _ h0).1.1 (rul_ok _ h0).1.2.1 (rul_ok _ h0).1.2.2 fiX6_43 dX6_readThing_111 ?_
          refine lv_iconst (v := 1) cx.1 cx.2.1 dX6_readThing_114 (by decide) ?_
          refine lv_iadd cx.1 cx.2.1 dX6_readThing_115 ?_
          obtain ⟨M29, e30, hf⟩ := lt_elim hf
          refine r_putI cx wo (rul_ok _ h0).1.1 (rul_ok _ h0).1.2.1 (rul_ok _ h0).1.2.2 fpX6_43 dX6_readThing_116 (fun H locs wo => ?_)
          rw [← e30] at wo
          obtain ⟨y31, e32, hf⟩ := lt_elim hf
          refine lv_iinc (v := y31) (lv' := [(4, .int y31), (3, .int y27), (2, .int y25), (0, .ref (B + a0))]) cx.1 cx.2.1 dX6_readThing_119 hl (k := 3) rfl (by rw [e32]; rfl) (by decide) rfl (fun ls hl => ?_)
          refine lv_goto (tgt := 69) cx.1 cx.2.1 dX6_readThing_122 (by decide) ?_
          exact ih _ _ _ _ h0 _ _ hf _ _ _ wo (lv_sub hl [3, 2, 1, 0] rfl)
set_option maxHeartbeats 1000000 in
set_option maxRecDepth 10000 in
theorem wX6_readThing_42 (cx : Cx p s m args c cX6_readThing 5 RX6 G) (hr : meth.sig.returnType = (some .boolean)) (hlk : meth.locks = false) : ∀ (a0 : Nat) (t0 : Nat) (h0 : a0 ∈ rules) (k0 : t0 ∈ rules) (M : Mem) (q : Int32 × Mem), fX6_readThing_42 a0 t0 M = some q → ∀ (H : Heap) (locs : List Loc) (ls : Array Slot), Wo Ph G B 205 s M H locs → lv_has ls 5 [(0, .ref (B + a0))] → W p l e (rmN (3)) s m args below meth c H locs 0 0 (MQ below (QcI Ph G B 205 q.1 q.2) args s 0 0 (fr B)) (F0 m 42 ls [.ref (B + t0)]) := by
  intro a0 t0 h0 k0 M q hf H locs ls wo hl
  unfold fX6_readThing_42 at hf
  refine lv_iconst (v := 1) cx.1 cx.2.1 dX6_readThing_42 (by decide) ?_
  refine lv_goto (tgt := 47) cx.1 cx.2.1 dX6_readThing_43 (by decide) ?_
  obtain ⟨M33, e34, hf⟩ := lt_elim hf
  refine r_putZ cx wo (rul_ok _ k0).1.1 (rul_ok _ k0).1.2.1 (rul_ok _ k0).1.2.2 fpX6_32 (Or.inr rfl) dX6_readThing_47 (fun H locs wo => ?_)
  rw [← e34] at wo
  refine lv_aload_n cx.1 cx.2.1 dX6_readThing_50 rfl (lv_at hl 0 rfl) ?_
  refine lv_dup cx.1 cx.2.1 dX6_readThing_51 rfl ?_
  refine r_getI cx wo (rul_ok _ h0).1.1 (rul_ok _ h0).1.2.1 (rul_ok _ h0).1.2.2 fiX6_43 dX6_readThing_52 ?_
  refine lv_iconst (v := 1) cx.1 cx.2.1 dX6_readThing_55 (by decide) ?_
  refine lv_iadd cx.1 cx.2.1 dX6_readThing_56 ?_
  obtain ⟨M35, e36, hf⟩ := lt_elim hf
  refine r_putI cx wo (rul_ok _ h0).1.1 (rul_ok _ h0).1.2.1 (rul_ok _ h0).1.2.2 fpX6_43 dX6_readThing_57 (fun H locs wo => ?_)
  rw [← e36] at wo
  refine lv_iconst (v := 1) cx.1 cx.2.1 dX6_readThing_60 (by decide) ?_
  have hq := Option.some.inj hf
  subst hq
  exact r_zret cx wo hr hlk (Or.inr rfl) dX6_readThing_61
set_option maxHeartbeats 1000000 in
set_option maxRecDepth 10000 in
theorem mX6_readThing (l : Launch) {G : GG} {B : Nat} {a0 : Nat} (h0 : a0 ∈ rules) {M : Mem} {q : Int32 × Mem} (hf : fX6_readThing a0 M = some q) : Met l yX6_readThing (wsG yX6_readThing cX6_readThing 5 (some .boolean)) (rmN (3)) (PcW Ph G B 205 M [.ref (B + a0)]) (QcI Ph G B 205 q.1 q.2) 0 0 (fr B) := by
  refine mk_Met (own := RX6) rfl rfl (Nat.le_of_ble_eq_true rfl) ?_
  intro p e s m below meth c ls cx hr hlk wo hl
  have hl : lv_has ls 5 [(0, .ref (B + a0))] := hl
  unfold fX6_readThing at hf
  refine lv_aload_n cx.1 cx.2.1 dX6_readThing_0 rfl (lv_at hl 0 rfl) ?_
  obtain ⟨q1, e2, hf⟩ := bd_elim hf
  refine r_Vi (rest := []) cx wo (mX6_peek l h0 e2) cvX6_56 rfl (rul_ok _ h0).1.1 (rul_ok _ h0).1.2.1 (rul_ok _ h0).1.2.2 rfl rfl hl.1 rfl (Nat.le_of_ble_eq_true rfl) (hR_ok (by decide)) dX6_readThing_1 (fun H locs wo => ?_)
  obtain ⟨q3, e4, hf⟩ := bd_elim hf
  refine r_Si (rest := []) cx wo (mX6_thingOf l e4) csX6_73 rfl hl.1 rfl (Nat.le_of_ble_eq_true rfl) (hR_ok (by decide)) dX6_readThing_4 (fun H locs wo => ?_)
  refine lv_istore_n (lv' := [(1, .int q3.1), (0, .ref (B + a0))]) cx.1 cx.2.1 dX6_readThing_7 rfl hl (by decide) rfl (fun ls hl => ?_)
  refine lv_iload_n cx.1 cx.2.1 dX6_readThing_8 rfl (lv_at hl 0 rfl) ?_
  refine lv_if_lt (tgt := 62) cx.1 cx.2.1 dX6_readThing_9 (by decide) (fun c5 => ?_) (fun c5 => ?_)
  · rw [if_pos c5] at hf
    refine lv_iconst (v := 0) cx.1 cx.2.1 dX6_readThing_62 (by decide) ?_
    refine lv_istore_n (lv' := [(2, .int 0), (1, .int q3.1), (0, .ref (B + a0))]) cx.1 cx.2.1 dX6_readThing_63 rfl hl (by decide) rfl (fun ls hl => ?_)
    refine lv_iconst (v := 0) cx.1 cx.2.1 dX6_readThing_64 (by decide) ?_
    refine lv_istore_n (lv' := [(3, .int 0), (2, .int 0), (1, .int q3.1), (0, .ref (B + a0))]) cx.1 cx.2.1 dX6_readThing_65 rfl hl (by decide) rfl (fun ls hl => ?_)
    refine lv_iconst (v := 0) cx.1 cx.2.1 dX6_readThing_66 (by decide) ?_
    refine lv_istore (lv' := [(4, .int 0), (3, .int 0), (2, .int 0), (1, .int q3.1), (0, .ref (B + a0))]) cx.1 cx.2.1 dX6_readThing_67 hl (by decide) rfl (fun ls hl => ?_)
    exact wX6_readThing_69 cx hr hlk _ _ _ _ _ h0 _ _ hf _ _ _ wo (lv_sub hl [4, 2, 1, 0] rfl)
  · rw [if_neg c5] at hf
    refine lv_aload_n cx.1 cx.2.1 dX6_readThing_12 rfl (lv_at hl 1 rfl) ?_
    refine lv_iconst (v := (-1)) cx.1 cx.2.1 dX6_readThing_13 (by decide) ?_
    refine lv_iload_n cx.1 cx.2.1 dX6_readThing_14 rfl (lv_at hl 0 rfl) ?_
    refine lv_isub cx.1 cx.2.1 dX6_readThing_15 ?_
    obtain ⟨q6, e7, hf⟩ := bd_elim hf
    refine r_Vv (rest := []) cx wo (mX6_emit l h0 e7) cvX6_36 rfl (rul_ok _ h0).1.1 (rul_ok _ h0).1.2.1 (rul_ok _ h0).1.2.2 rfl rfl hl.1 rfl (Nat.le_of_ble_eq_true rfl) (hR_ok (by decide)) dX6_readThing_16 (fun H locs wo => ?_)
    refine lv_aload_n cx.1 cx.2.1 dX6_readThing_19 rfl (lv_at hl 1 rfl) ?_
    refine lv_aload_n cx.1 cx.2.1 dX6_readThing_20 rfl (lv_at hl 1 rfl) ?_
    refine r_getI cx wo (rul_ok _ h0).1.1 (rul_ok _ h0).1.2.1 (rul_ok _ h0).1.2.2 fiX6_32 dX6_readThing_21 ?_
    refine lv_if_ne (tgt := 42) cx.1 cx.2.1 dX6_readThing_24 (by decide) (fun c8 => ?_) (fun c8 => ?_)
    · rw [if_neg c8] at hf
      exact wX6_readThing_42 cx hr hlk _ _ h0 h0 _ _ hf _ _ _ wo (lv_sub hl [1] rfl)
    · rw [if_pos c8] at hf
      refine lv_iload_n cx.1 cx.2.1 dX6_readThing_27 rfl (lv_at hl 0 rfl) ?_
      refine lv_iconst (v := 2) cx.1 cx.2.1 dX6_readThing_28 (by decide) ?_
      refine lv_icmp_eq (tgt := 42) cx.1 cx.2.1 dX6_readThing_29 (by decide) (fun c9 => ?_) (fun c9 => ?_)
      · rw [if_pos c9] at hf
        exact wX6_readThing_42 cx hr hlk _ _ h0 h0 _ _ hf _ _ _ wo (lv_sub hl [1] rfl)
      · rw [if_neg c9] at hf
        refine lv_iload_n cx.1 cx.2.1 dX6_readThing_32 rfl (lv_at hl 0 rfl) ?_
        refine lv_iconst (v := 4) cx.1 cx.2.1 dX6_readThing_33 (by decide) ?_
        refine lv_icmp_eq (tgt := 42) cx.1 cx.2.1 dX6_readThing_34 (by decide) (fun c10 => ?_) (fun c10 => ?_)
        · rw [if_pos c10] at hf
          exact wX6_readThing_42 cx hr hlk _ _ h0 h0 _ _ hf _ _ _ wo (lv_sub hl [1] rfl)
        · rw [if_neg c10] at hf
          refine lv_iload_n cx.1 cx.2.1 dX6_readThing_37 rfl (lv_at hl 0 rfl) ?_
          refine lv_iconst (v := 5) cx.1 cx.2.1 dX6_readThing_38 (by decide) ?_
          refine lv_icmp_ne (tgt := 46) cx.1 cx.2.1 dX6_readThing_39 (by decide) (fun c11 => ?_) (fun c11 => ?_)
          · rw [if_neg c11] at hf
            refine lv_iconst (v := 0) cx.1 cx.2.1 dX6_readThing_46 (by decide) ?_
            obtain ⟨M12, e13, hf⟩ := lt_elim hf
            refine r_putZ cx wo (rul_ok _ h0).1.1 (rul_ok _ h0).1.2.1 (rul_ok _ h0).1.2.2 fpX6_32 (Or.inl rfl) dX6_readThing_47 (fun H locs wo => ?_)
            rw [← e13] at wo
            refine lv_aload_n cx.1 cx.2.1 dX6_readThing_50 rfl (lv_at hl 1 rfl) ?_
            refine lv_dup cx.1 cx.2.1 dX6_readThing_51 rfl ?_
            refine r_getI cx wo (rul_ok _ h0).1.1 (rul_ok _ h0).1.2.1 (rul_ok _ h0).1.2.2 fiX6_43 dX6_readThing_52 ?_
            refine lv_iconst (v := 1) cx.1 cx.2.1 dX6_readThing_55 (by decide) ?_
            refine lv_iadd cx.1 cx.2.1 dX6_readThing_56 ?_
            obtain ⟨M14, e15, hf⟩ := lt_elim hf
            refine r_putI cx wo (rul_ok _ h0).1.1 (rul_ok _ h0).1.2.1 (rul_ok _ h0).1.2.2 fpX6_43 dX6_readThing_57 (fun H locs wo => ?_)
            rw [← e15] at wo
            refine lv_iconst (v := 1) cx.1 cx.2.1 dX6_readThing_60 (by decide) ?_
            have hq := Option.some.inj hf
            subst hq
            exact r_zret cx wo hr hlk (Or.inr rfl) dX6_readThing_61
          · rw [if_pos c11] at hf
            exact wX6_readThing_42 cx hr hlk _ _ h0 h0 _ _ hf _ _ _ wo (lv_sub hl [1] rfl)
set_option maxHeartbeats 1000000 in
set_option maxRecDepth 10000 in
theorem wX6_readSigned_68 {K : Nat} (hK : 16 ≤ K) {rc : Nat → Int32 → Mem → Option (Int32 × Mem)} (hrc : ∀ {a0 : Nat} {x1 : Int32} {M : Mem} {q : Int32 × Mem} (h0 : a0 ∈ rules), rc a0 x1 M = some q → Met l yX6_readExpression (wsG yX6_readExpression cX6_readExpression 3 (some .boolean)) (rmN (K)) (PcW Ph G B 205 M [.ref (B + a0), .int x1]) (QcI Ph G B 205 q.1 q.2) 0 0 (fr B)) (cx : Cx p s m args c cX6_readSigned 4 RX6 G) (hr : meth.sig.returnType = (some .boolean)) (hlk : meth.locks = false) : ∀ (a0 : Nat) (x2 : Int32) (s0 : Int32) (h0 : a0 ∈ rules) (M : Mem) (q : Int32 × Mem), fX6_readSigned_68 rc a0 x2 s0 M = some q → ∀ (H : Heap) (locs : List Loc) (ls : Array Slot), Wo Ph G B 205 s M H locs → lv_has ls 4 [(0, .ref (B + a0)), (2, .int x2)] → W p l e (rmN (K + 2)) s m args below meth c H locs 0 0 (MQ below (QcI Ph G B 205 q.1 q.2) args s 0 0 (fr B)) (F0 m 68 ls [.int s0]) := by
  intro a0 x2 s0 h0 M q hf H locs ls wo hl
  unfold fX6_readSigned_68 at hf
  refine lv_istore_n (lv' := [(3, .int s0), (0, .ref (B + a0)), (2, .int x2)]) cx.1 cx.2.1 dX6_readSigned_68 rfl hl (by decide) rfl (fun ls hl => ?_)
  refine lv_iload_n cx.1 cx.2.1 dX6_readSigned_69 rfl (lv_at hl 0 rfl) ?_
  refine lv_if_eq (tgt := 83) cx.1 cx.2.1 dX6_readSigned_70 (by decide) (fun c21 => ?_) (fun c21 => ?_)
  · rw [if_pos c21] at hf
    refine lv_iload_n cx.1 cx.2.1 dX6_readSigned_83 rfl (lv_at hl 0 rfl) ?_
    obtain ⟨g22, hf⟩ := gd_elim hf
    have hq := Option.some.inj hf
    subst hq
    exact r_zret cx wo hr hlk g22 dX6_readSigned_84
  · rw [if_neg c21] at hf
    refine lv_iload_n cx.1 cx.2.1 dX6_readSigned_73 rfl (lv_at hl 2 rfl) ?_
    refine lv_if_eq (tgt := 83) cx.1 cx.2.1 dX6_readSigned_74 (by decide) (fun c23 => ?_) (fun c23 => ?_)
    · rw [if_pos c23] at hf
      refine lv_iload_n cx.1 cx.2.1 dX6_readSigned_83 rfl (lv_at hl 0 rfl) ?_
      obtain ⟨g24, hf⟩ := gd_elim hf
      have hq := Option.some.inj hf
      subst hq
      exact r_zret cx wo hr hlk g24 dX6_readSigned_84
    · rw [if_neg c23] at hf
      refine lv_aload_n cx.1 cx.2.1 dX6_readSigned_77 rfl (lv_at hl 1 rfl) ?_
      refine lv_bipush (v := (-8)) cx.1 cx.2.1 dX6_readSigned_78 (by decide) ?_
      obtain ⟨q25, e26, hf⟩ := bd_elim hf
      refine r_Vv (rest := []) cx wo (mX6_emit l h0 e26) cvX6_36 rfl (rul_ok _ h0).1.1 (rul_ok _ h0).1.2.1 (rul_ok _ h0).1.2.2 rfl rfl hl.1 rfl (Nat.le_of_ble_eq_true rfl) (hR_ok (by omega)) dX6_readSigned_80 (fun H locs wo => ?_)
      refine lv_iload_n cx.1 cx.2.1 dX6_readSigned_83 rfl (lv_at hl 0 rfl) ?_
      obtain ⟨g27, hf⟩ := gd_elim hf
      have hq := Option.some.inj hf
      subst hq
      exact r_zret cx wo hr hlk g27 dX6_readSigned_84
set_option maxHeartbeats 1000000 in
set_option maxRecDepth 10000 in
theorem wX6_readSigned_45 {K : Nat} (hK : 16 ≤ K) {rc : Nat → Int32 → Mem → Option (Int32 × Mem)} (hrc : ∀ {a0 : Nat} {x1 : Int32} {M : Mem} {q : Int32 × Mem} (h0 : a0 ∈ rules), rc a0 x1 M = some q → Met l yX6_readExpression (wsG yX6_readExpression cX6_readExpression 3 (some .boolean)) (rmN (K)) (PcW Ph G B 205 M [.ref (B + a0), .int x1]) (QcI Ph G B 205 q.1 q.2) 0 0 (fr B)) (cx : Cx p s m args c cX6_readSigned 4 RX6 G) (hr : meth.sig.returnType = (some .boolean)) (hlk : meth.locks = false) : ∀ (a0 : Nat) (x1 : Int32) (x2 : Int32) (h0 : a0 ∈ rules) (M : Mem) (q : Int32 × Mem), fX6_readSigned_45 rc a0 x1 x2 M = some q → ∀ (H : Heap) (locs : List Loc) (ls : Array Slot), Wo Ph G B 205 s M H locs → lv_has ls 4 [(0, .ref (B + a0)), (1, .int x1), (2, .int x2)] → W p l e (rmN (K + 2)) s m args below meth c H locs 0 0 (MQ below (QcI Ph G B 205 q.1 q.2) args s 0 0 (fr B)) (F0 m 45 ls []) := by
  intro a0 x1 x2 h0 M q hf H locs ls wo hl
  unfold fX6_readSigned_45 at hf
  refine lv_aload_n cx.1 cx.2.1 dX6_readSigned_45 rfl (lv_at hl 0 rfl) ?_
  obtain ⟨q14, e15, hf⟩ := bd_elim hf
  refine r_Vi (rest := []) cx wo (mX6_peek l h0 e15) cvX6_56 rfl (rul_ok _ h0).1.1 (rul_ok _ h0).1.2.1 (rul_ok _ h0).1.2.2 rfl rfl hl.1 rfl (Nat.le_of_ble_eq_true rfl) (hR_ok (by omega)) dX6_readSigned_46 (fun H locs wo => ?_)
  refine lv_bipush (v := 40) cx.1 cx.2.1 dX6_readSigned_49 (by decide) ?_
  refine lv_icmp_ne (tgt := 64) cx.1 cx.2.1 dX6_readSigned_51 (by decide) (fun c16 => ?_) (fun c16 => ?_)
  · rw [if_neg c16] at hf
    refine lv_aload_n cx.1 cx.2.1 dX6_readSigned_64 rfl (lv_at hl 0 rfl) ?_
    obtain ⟨q17, e18, hf⟩ := bd_elim hf
    refine r_Vi (rest := []) cx wo (mX6_readThing l h0 e18) cvX6_69 rfl (rul_ok _ h0).1.1 (rul_ok _ h0).1.2.1 (rul_ok _ h0).1.2.2 rfl rfl hl.1 rfl (Nat.le_of_ble_eq_true rfl) (hR_ok (by omega)) dX6_readSigned_65 (fun H locs wo => ?_)
    exact wX6_readSigned_68 hK hrc cx hr hlk _ _ _ h0 _ _ hf _ _ _ wo (lv_sub hl [0, 2] rfl)
  · rw [if_pos c16] at hf
    refine lv_aload_n cx.1 cx.2.1 dX6_readSigned_54 rfl (lv_at hl 0 rfl) ?_
    refine lv_iload_n cx.1 cx.2.1 dX6_readSigned_55 rfl (lv_at hl 1 rfl) ?_
    refine lv_iconst (v := 1) cx.1 cx.2.1 dX6_readSigned_56 (by decide) ?_
    refine lv_iadd cx.1 cx.2.1 dX6_readSigned_57 ?_
    obtain ⟨q19, e20, hf⟩ := bd_elim hf
    refine r_Vi (rest := []) cx wo (mX6_readInner l hK hrc h0 e20) cvX6_66 rfl (rul_ok _ h0).1.1 (rul_ok _ h0).1.2.1 (rul_ok _ h0).1.2.2 rfl rfl hl.1 rfl (Nat.le_of_ble_eq_true rfl) (hR_ok (by omega)) dX6_readSigned_58 (fun H locs wo => ?_)
    refine lv_goto (tgt := 68) cx.1 cx.2.1 dX6_readSigned_61 (by decide) ?_
    exact wX6_readSigned_68 hK hrc cx hr hlk _ _ _ h0 _ _ hf _ _ _ wo (lv_sub hl [0, 2] rfl)
set_option maxHeartbeats 1000000 in
set_option maxRecDepth 10000 in
theorem wX6_readSigned_4 {K : Nat} (hK : 16 ≤ K) {rc : Nat → Int32 → Mem → Option (Int32 × Mem)} (hrc : ∀ {a0 : Nat} {x1 : Int32} {M : Mem} {q : Int32 × Mem} (h0 : a0 ∈ rules), rc a0 x1 M = some q → Met l yX6_readExpression (wsG yX6_readExpression cX6_readExpression 3 (some .boolean)) (rmN (K)) (PcW Ph G B 205 M [.ref (B + a0), .int x1]) (QcI Ph G B 205 q.1 q.2) 0 0 (fr B)) (cx : Cx p s m args c cX6_readSigned 4 RX6 G) (hr : meth.sig.returnType = (some .boolean)) (hlk : meth.locks = false) : ∀ (n : Nat) (a0 : Nat) (x1 : Int32) (x2 : Int32) (x3 : Int32) (h0 : a0 ∈ rules) (M : Mem) (q : Int32 × Mem), fX6_readSigned_4 rc n a0 x1 x2 x3 M = some q → ∀ (H : Heap) (locs : List Loc) (ls : Array Slot), Wo Ph G B 205 s M H locs → lv_has ls 4 [(0, .ref (B + a0)), (1, .int x1), (2, .int x2), (3, .int x3)] → W p l e (rmN (K + 2)) s m args below meth c H locs 0 0 (MQ below (QcI Ph G B 205 q.1 q.2) args s 0 0 (fr B)) (F0 m 4 ls []) := by
  intro n
  induction n with
  | zero =>
    intro a0 x1 x2 x3 h0 M q hf H locs ls wo hl
    have hf : none = some q := hf
    cases hf
  | succ n ih =>
    intro a0 x1 x2 x3 h0 M q hf H locs ls wo hl
    rw [fX6_readSigned_4] at hf
    refine lv_iload_n cx.1 cx.2.1 dX6_readSigned_4 rfl (lv_at hl 3 rfl) ?_
    refine lv_bipush (v := 40) cx.1 cx.2.1 dX6_readSigned_5 (by decide) ?_
    refine lv_icmp_ge (tgt := 45) cx.1 cx.2.1 dX6_readSigned_7 (by decide) (fun c1 => ?_) (fun c1 => ?_)
    · rw [if_pos c1] at hf
      exact wX6_readSigned_45 hK hrc cx hr hlk _ _ _ h0 _ _ hf _ _ _ wo (lv_sub hl [0, 1, 2] rfl)
    · rw [if_neg c1] at hf
      refine lv_aload_n cx.1 cx.2.1 dX6_readSigned_10 rfl (lv_at hl 0 rfl) ?_
      obtain ⟨q2, e3, hf⟩ := bd_elim hf
      refine r_Vi (rest := []) cx wo (mX6_peek l h0 e3) cvX6_56 rfl (rul_ok _ h0).1.1 (rul_ok _ h0).1.2.1 (rul_ok _ h0).1.2.2 rfl rfl hl.1 rfl (Nat.le_of_ble_eq_true rfl) (hR_ok (by omega)) dX6_readSigned_11 (fun H locs wo => ?_)
      refine lv_bipush (v := 45) cx.1 cx.2.1 dX6_readSigned_14 (by decide) ?_
      refine lv_icmp_ne (tgt := 45) cx.1 cx.2.1 dX6_readSigned_16 (by decide) (fun c4 => ?_) (fun c4 => ?_)
      · rw [if_neg c4] at hf
        exact wX6_readSigned_45 hK hrc cx hr hlk _ _ _ h0 _ _ hf _ _ _ wo (lv_sub hl [0, 1, 2] rfl)
      · rw [if_pos c4] at hf
        refine lv_iload_n cx.1 cx.2.1 dX6_readSigned_19 rfl (lv_at hl 2 rfl) ?_
        refine lv_if_ne (tgt := 27) cx.1 cx.2.1 dX6_readSigned_20 (by decide) (fun c5 => ?_) (fun c5 => ?_)
        · rw [if_neg c5] at hf
          refine lv_iconst (v := 0) cx.1 cx.2.1 dX6_readSigned_27 (by decide) ?_
          refine lv_istore_n (lv' := [(2, .int 0), (0, .ref (B + a0)), (1, .int x1), (3, .int x3)]) cx.1 cx.2.1 dX6_readSigned_28 rfl hl (by decide) rfl (fun ls hl => ?_)
          refine lv_aload_n cx.1 cx.2.1 dX6_readSigned_29 rfl (lv_at hl 1 rfl) ?_
          refine lv_dup cx.1 cx.2.1 dX6_readSigned_30 rfl ?_
          refine r_getI cx wo (rul_ok _ h0).1.1 (rul_ok _ h0).1.2.1 (rul_ok _ h0).1.2.2 fiX6_43 dX6_readSigned_31 ?_
          refine lv_iconst (v := 1) cx.1 cx.2.1 dX6_readSigned_34 (by decide) ?_
          refine lv_iadd cx.1 cx.2.1 dX6_readSigned_35 ?_
          obtain ⟨M6, e7, hf⟩ := lt_elim hf
          refine r_putI cx wo (rul_ok _ h0).1.1 (rul_ok _ h0).1.2.1 (rul_ok _ h0).1.2.2 fpX6_43 dX6_readSigned_36 (fun H locs wo => ?_)
          rw [← e7] at wo
          obtain ⟨y8, e9, hf⟩ := lt_elim hf
          refine lv_iinc (v := y8) (lv' := [(3, .int y8), (2, .int 0), (0, .ref (B + a0)), (1, .int x1)]) cx.1 cx.2.1 dX6_readSigned_39 hl (k := 3) rfl (by rw [e9]; rfl) (by decide) rfl (fun ls hl => ?_)
          refine lv_goto (tgt := 4) cx.1 cx.2.1 dX6_readSigned_42 (by decide) ?_
          exact ih _ _ _ _ h0 _ _ hf _ _ _ wo (lv_sub hl [2, 3, 1, 0] rfl)
        · rw [if_pos c5] at hf
          refine lv_iconst (v := 1) cx.1 cx.2.1 dX6_readSigned_23 (by decide) ?_
          refine lv_goto (tgt := 28) cx.1 cx.2.1 dX6_readSigned_24 (by decide) ?_
          refine lv_istore_n (lv' := [(2, .int 1), (0, .ref (B + a0)), (1, .int x1), (3, .int x3)]) cx.1 cx.2.1 dX6_readSigned_28 rfl hl (by decide) rfl (fun ls hl => ?_)
          refine lv_aload_n cx.1 cx.2.1 dX6_readSigned_29 rfl (lv_at hl 1 rfl) ?_
          refine lv_dup cx.1 cx.2.1 dX6_readSigned_30 rfl ?_
          refine r_getI cx wo (rul_ok _ h0).1.1 (rul_ok _ h0).1.2.1 (rul_ok _ h0).1.2.2 fiX6_43 dX6_readSigned_31 ?_
          refine lv_iconst (v := 1) cx.1 cx.2.1 dX6_readSigned_34 (by decide) ?_
          refine lv_iadd cx.1 cx.2.1 dX6_readSigned_35 ?_
          obtain ⟨M10, e11, hf⟩ := lt_elim hf
          refine r_putI cx wo (rul_ok _ h0).1.1 (rul_ok _ h0).1.2.1 (rul_ok _ h0).1.2.2 fpX6_43 dX6_readSigned_36 (fun H locs wo => ?_)
          rw [← e11] at wo
          obtain ⟨y12, e13, hf⟩ := lt_elim hf
          refine lv_iinc (v := y12) (lv' := [(3, .int y12), (2, .int 1), (0, .ref (B + a0)), (1, .int x1)]) cx.1 cx.2.1 dX6_readSigned_39 hl (k := 3) rfl (by rw [e13]; rfl) (by decide) rfl (fun ls hl => ?_)
          refine lv_goto (tgt := 4) cx.1 cx.2.1 dX6_readSigned_42 (by decide) ?_
          exact ih _ _ _ _ h0 _ _ hf _ _ _ wo (lv_sub hl [2, 3, 1, 0] rfl)
set_option maxHeartbeats 1000000 in
set_option maxRecDepth 10000 in
theorem mX6_readSigned (l : Launch) {G : GG} {B : Nat} {K : Nat} (hK : 16 ≤ K) {rc : Nat → Int32 → Mem → Option (Int32 × Mem)} (hrc : ∀ {a0 : Nat} {x1 : Int32} {M : Mem} {q : Int32 × Mem} (h0 : a0 ∈ rules), rc a0 x1 M = some q → Met l yX6_readExpression (wsG yX6_readExpression cX6_readExpression 3 (some .boolean)) (rmN (K)) (PcW Ph G B 205 M [.ref (B + a0), .int x1]) (QcI Ph G B 205 q.1 q.2) 0 0 (fr B)) {a0 : Nat} {x1 : Int32} (h0 : a0 ∈ rules) {M : Mem} {q : Int32 × Mem} (hf : fX6_readSigned rc a0 x1 M = some q) : Met l yX6_readSigned (wsG yX6_readSigned cX6_readSigned 4 (some .boolean)) (rmN (K + 2)) (PcW Ph G B 205 M [.ref (B + a0), .int x1]) (QcI Ph G B 205 q.1 q.2) 0 0 (fr B) := by
  refine mk_Met (own := RX6) rfl rfl (Nat.le_of_ble_eq_true rfl) ?_
  intro p e s m below meth c ls cx hr hlk wo hl
  have hl : lv_has ls 4 [(0, .ref (B + a0)), (1, .int x1)] := hl
  unfold fX6_readSigned at hf
  refine lv_iconst (v := 0) cx.1 cx.2.1 dX6_readSigned_0 (by decide) ?_
  refine lv_istore_n (lv' := [(2, .int 0), (0, .ref (B + a0)), (1, .int x1)]) cx.1 cx.2.1 dX6_readSigned_1 rfl hl (by decide) rfl (fun ls hl => ?_)
  refine lv_iconst (v := 0) cx.1 cx.2.1 dX6_readSigned_2 (by decide) ?_
  refine lv_istore_n (lv' := [(3, .int 0), (2, .int 0), (0, .ref (B + a0)), (1, .int x1)]) cx.1 cx.2.1 dX6_readSigned_3 rfl hl (by decide) rfl (fun ls hl => ?_)
  exact wX6_readSigned_4 hK hrc cx hr hlk _ _ _ _ _ h0 _ _ hf _ _ _ wo (lv_sub hl [2, 3, 1, 0] rfl)
set_option maxHeartbeats 1000000 in
set_option maxRecDepth 10000 in
theorem wX6_readProduct_40 {K : Nat} (hK : 16 ≤ K) {rc : Nat → Int32 → Mem → Option (Int32 × Mem)} (hrc : ∀ {a0 : Nat} {x1 : Int32} {M : Mem} {q : Int32 × Mem} (h0 : a0 ∈ rules), rc a0 x1 M = some q → Met l yX6_readExpression (wsG yX6_readExpression cX6_readExpression 3 (some .boolean)) (rmN (K)) (PcW Ph G B 205 M [.ref (B + a0), .int x1]) (QcI Ph G B 205 q.1 q.2) 0 0 (fr B)) (cx : Cx p s m args c cX6_readProduct 5 RX6 G) (hr : meth.sig.returnType = (some .boolean)) (hlk : meth.locks = false) {k8 : Nat → Int32 → Int32 → Int32 → Mem → Option (Int32 × Mem)} (hk8 : ∀ (a0 : Nat) (x1 : Int32) (x2 : Int32) (x3 : Int32) (h0 : a0 ∈ rules) (M : Mem) (q : Int32 × Mem), k8 a0 x1 x2 x3 M = some q → ∀ (H : Heap) (locs : List Loc) (ls : Array Slot), Wo Ph G B 205 s M H locs → lv_has ls 5 [(0, .ref (B + a0)), (1, .int x1), (2, .int x2), (3, .int x3)] → W p l e (rmN (K + 3)) s m args below meth c H locs 0 0 (MQ below (QcI Ph G B 205 q.1 q.2) args s 0 0 (fr B)) (F0 m 8 ls [])) : ∀ (a0 : Nat) (x1 : Int32) (x3 : Int32) (x4 : Int32) (h0 : a0 ∈ rules) (M : Mem) (q : Int32 × Mem), fX6_readProduct_40 rc k8 a0 x1 x3 x4 M = some q → ∀ (H : Heap) (locs : List Loc) (ls : Array Slot), Wo Ph G B 205 s M H locs → lv_has ls 5 [(0, .ref (B + a0)), (1, .int x1), (3, .int x3), (4, .int x4)] → W p l e (rmN (K + 3)) s m args below meth c H locs 0 0 (MQ below (QcI Ph G B 205 q.1 q.2) args s 0 0 (fr B)) (F0 m 40 ls []) := by
  intro a0 x1 x3 x4 h0 M q hf H locs ls wo hl
  unfold fX6_readProduct_40 at hf
  refine lv_aload_n cx.1 cx.2.1 dX6_readProduct_40 rfl (lv_at hl 0 rfl) ?_
  refine lv_dup cx.1 cx.2.1 dX6_readProduct_41 rfl ?_
  refine r_getI cx wo (rul_ok _ h0).1.1 (rul_ok _ h0).1.2.1 (rul_ok _ h0).1.2.2 fiX6_43 dX6_readProduct_42 ?_
  refine lv_iconst (v := 1) cx.1 cx.2.1 dX6_readProduct_45 (by decide) ?_
  refine lv_iadd cx.1 cx.2.1 dX6_readProduct_46 ?_
  obtain ⟨M11, e12, hf⟩ := lt_elim hf
  refine r_putI cx wo (rul_ok _ h0).1.1 (rul_ok _ h0).1.2.1 (rul_ok _ h0).1.2.2 fpX6_43 dX6_readProduct_47 (fun H locs wo => ?_)
  rw [← e12] at wo
  refine lv_aload_n cx.1 cx.2.1 dX6_readProduct_50 rfl (lv_at hl 0 rfl) ?_
  refine lv_iload_n cx.1 cx.2.1 dX6_readProduct_51 rfl (lv_at hl 1 rfl) ?_
  obtain ⟨q13, e14, hf⟩ := bd_elim hf
  refine r_Vi (rest := []) cx wo (mX6_readSigned l hK hrc h0 e14) cvX6_63 rfl (rul_ok _ h0).1.1 (rul_ok _ h0).1.2.1 (rul_ok _ h0).1.2.2 rfl rfl hl.1 rfl (Nat.le_of_ble_eq_true rfl) (hR_ok (by omega)) dX6_readProduct_52 (fun H locs wo => ?_)
  refine lv_istore_n (lv' := [(2, .int q13.1), (0, .ref (B + a0)), (1, .int x1), (3, .int x3), (4, .int x4)]) cx.1 cx.2.1 dX6_readProduct_55 rfl hl (by decide) rfl (fun ls hl => ?_)
  refine lv_aload_n cx.1 cx.2.1 dX6_readProduct_56 rfl (lv_at hl 1 rfl) ?_
  refine lv_iload cx.1 cx.2.1 dX6_readProduct_57 (lv_at hl 4 rfl) ?_
  refine lv_ineg cx.1 cx.2.1 dX6_readProduct_59 ?_
  obtain ⟨q15, e16, hf⟩ := bd_elim hf
  refine r_Vv (rest := []) cx wo (mX6_emit l h0 e16) cvX6_36 rfl (rul_ok _ h0).1.1 (rul_ok _ h0).1.2.1 (rul_ok _ h0).1.2.2 rfl rfl hl.1 rfl (Nat.le_of_ble_eq_true rfl) (hR_ok (by omega)) dX6_readProduct_60 (fun H locs wo => ?_)
  obtain ⟨y17, e18, hf⟩ := lt_elim hf
  refine lv_iinc (v := y17) (lv' := [(3, .int y17), (2, .int q13.1), (0, .ref (B + a0)), (1, .int x1), (4, .int x4)]) cx.1 cx.2.1 dX6_readProduct_63 hl (k := 3) rfl (by rw [e18]; rfl) (by decide) rfl (fun ls hl => ?_)
  refine lv_goto (tgt := 8) cx.1 cx.2.1 dX6_readProduct_66 (by decide) ?_
  exact hk8 _ _ _ _ h0 _ _ hf _ _ _ wo (lv_sub hl [2, 3, 1, 0] rfl)
set_option maxHeartbeats 1000000 in
set_option maxRecDepth 10000 in
theorem wX6_readProduct_8 {K : Nat} (hK : 16 ≤ K) {rc : Nat → Int32 → Mem → Option (Int32 × Mem)} (hrc : ∀ {a0 : Nat} {x1 : Int32} {M : Mem} {q : Int32 × Mem} (h0 : a0 ∈ rules), rc a0 x1 M = some q → Met l yX6_readExpression (wsG yX6_readExpression cX6_readExpression 3 (some .boolean)) (rmN (K)) (PcW Ph G B 205 M [.ref (B + a0), .int x1]) (QcI Ph G B 205 q.1 q.2) 0 0 (fr B)) (cx : Cx p s m args c cX6_readProduct 5 RX6 G) (hr : meth.sig.returnType = (some .boolean)) (hlk : meth.locks = false) : ∀ (n : Nat) (a0 : Nat) (x1 : Int32) (x2 : Int32) (x3 : Int32) (h0 : a0 ∈ rules) (M : Mem) (q : Int32 × Mem), fX6_readProduct_8 rc n a0 x1 x2 x3 M = some q → ∀ (H : Heap) (locs : List Loc) (ls : Array Slot), Wo Ph G B 205 s M H locs → lv_has ls 5 [(0, .ref (B + a0)), (1, .int x1), (2, .int x2), (3, .int x3)] → W p l e (rmN (K + 3)) s m args below meth c H locs 0 0 (MQ below (QcI Ph G B 205 q.1 q.2) args s 0 0 (fr B)) (F0 m 8 ls []) := by
  intro n
  induction n with
  | zero =>
    intro a0 x1 x2 x3 h0 M q hf H locs ls wo hl
    have hf : none = some q := hf
    cases hf
  | succ n ih =>
    intro a0 x1 x2 x3 h0 M q hf H locs ls wo hl
    rw [fX6_readProduct_8] at hf
    refine lv_iload_n cx.1 cx.2.1 dX6_readProduct_8 rfl (lv_at hl 3 rfl) ?_
    refine lv_bipush (v := 40) cx.1 cx.2.1 dX6_readProduct_9 (by decide) ?_
    refine lv_icmp_ge (tgt := 69) cx.1 cx.2.1 dX6_readProduct_11 (by decide) (fun c3 => ?_) (fun c3 => ?_)
    · rw [if_pos c3] at hf
      refine lv_iload_n cx.1 cx.2.1 dX6_readProduct_69 rfl (lv_at hl 2 rfl) ?_
      obtain ⟨g4, hf⟩ := gd_elim hf
      have hq := Option.some.inj hf
      subst hq
      exact r_zret cx wo hr hlk g4 dX6_readProduct_70
    · rw [if_neg c3] at hf
      refine lv_iload_n cx.1 cx.2.1 dX6_readProduct_14 rfl (lv_at hl 2 rfl) ?_
      refine lv_if_eq (tgt := 69) cx.1 cx.2.1 dX6_readProduct_15 (by decide) (fun c5 => ?_) (fun c5 => ?_)
      · rw [if_pos c5] at hf
        refine lv_iload_n cx.1 cx.2.1 dX6_readProduct_69 rfl (lv_at hl 2 rfl) ?_
        obtain ⟨g6, hf⟩ := gd_elim hf
        have hq := Option.some.inj hf
        subst hq
        exact r_zret cx wo hr hlk g6 dX6_readProduct_70
      · rw [if_neg c5] at hf
        refine lv_aload_n cx.1 cx.2.1 dX6_readProduct_18 rfl (lv_at hl 0 rfl) ?_
        obtain ⟨q7, e8, hf⟩ := bd_elim hf
        refine r_Vi (rest := []) cx wo (mX6_peek l h0 e8) cvX6_56 rfl (rul_ok _ h0).1.1 (rul_ok _ h0).1.2.1 (rul_ok _ h0).1.2.2 rfl rfl hl.1 rfl (Nat.le_of_ble_eq_true rfl) (hR_ok (by omega)) dX6_readProduct_19 (fun H locs wo => ?_)
        refine lv_istore (lv' := [(4, .int q7.1), (0, .ref (B + a0)), (1, .int x1), (2, .int x2), (3, .int x3)]) cx.1 cx.2.1 dX6_readProduct_22 hl (by decide) rfl (fun ls hl => ?_)
        refine lv_iload cx.1 cx.2.1 dX6_readProduct_24 (lv_at hl 0 rfl) ?_
        refine lv_bipush (v := 42) cx.1 cx.2.1 dX6_readProduct_26 (by decide) ?_
        refine lv_icmp_eq (tgt := 40) cx.1 cx.2.1 dX6_readProduct_28 (by decide) (fun c9 => ?_) (fun c9 => ?_)
        · rw [if_pos c9] at hf
          exact wX6_readProduct_40 hK hrc cx hr hlk ih _ _ _ _ h0 _ _ hf _ _ _ wo (lv_sub hl [1, 2, 4, 0] rfl)
        · rw [if_neg c9] at hf
          refine lv_iload cx.1 cx.2.1 dX6_readProduct_31 (lv_at hl 0 rfl) ?_
          refine lv_bipush (v := 47) cx.1 cx.2.1 dX6_readProduct_33 (by decide) ?_
          refine lv_icmp_eq (tgt := 40) cx.1 cx.2.1 dX6_readProduct_35 (by decide) (fun c10 => ?_) (fun c10 => ?_)
          · rw [if_pos c10] at hf
            exact wX6_readProduct_40 hK hrc cx hr hlk ih _ _ _ _ h0 _ _ hf _ _ _ wo (lv_sub hl [1, 2, 4, 0] rfl)
          · rw [if_neg c10] at hf
            refine lv_iconst (v := 1) cx.1 cx.2.1 dX6_readProduct_38 (by decide) ?_
            have hq := Option.some.inj hf
            subst hq
            exact r_zret cx wo hr hlk (Or.inr rfl) dX6_readProduct_39
set_option maxHeartbeats 1000000 in
set_option maxRecDepth 10000 in
theorem mX6_readProduct (l : Launch) {G : GG} {B : Nat} {K : Nat} (hK : 16 ≤ K) {rc : Nat → Int32 → Mem → Option (Int32 × Mem)} (hrc : ∀ {a0 : Nat} {x1 : Int32} {M : Mem} {q : Int32 × Mem} (h0 : a0 ∈ rules), rc a0 x1 M = some q → Met l yX6_readExpression (wsG yX6_readExpression cX6_readExpression 3 (some .boolean)) (rmN (K)) (PcW Ph G B 205 M [.ref (B + a0), .int x1]) (QcI Ph G B 205 q.1 q.2) 0 0 (fr B)) {a0 : Nat} {x1 : Int32} (h0 : a0 ∈ rules) {M : Mem} {q : Int32 × Mem} (hf : fX6_readProduct rc a0 x1 M = some q) : Met l yX6_readProduct (wsG yX6_readProduct cX6_readProduct 5 (some .boolean)) (rmN (K + 3)) (PcW Ph G B 205 M [.ref (B + a0), .int x1]) (QcI Ph G B 205 q.1 q.2) 0 0 (fr B) := by
  refine mk_Met (own := RX6) rfl rfl (Nat.le_of_ble_eq_true rfl) ?_
  intro p e s m below meth c ls cx hr hlk wo hl
  have hl : lv_has ls 5 [(0, .ref (B + a0)), (1, .int x1)] := hl
  unfold fX6_readProduct at hf
  refine lv_aload_n cx.1 cx.2.1 dX6_readProduct_0 rfl (lv_at hl 0 rfl) ?_
  refine lv_iload_n cx.1 cx.2.1 dX6_readProduct_1 rfl (lv_at hl 1 rfl) ?_
  obtain ⟨q1, e2, hf⟩ := bd_elim hf
  refine r_Vi (rest := []) cx wo (mX6_readSigned l hK hrc h0 e2) cvX6_63 rfl (rul_ok _ h0).1.1 (rul_ok _ h0).1.2.1 (rul_ok _ h0).1.2.2 rfl rfl hl.1 rfl (Nat.le_of_ble_eq_true rfl) (hR_ok (by omega)) dX6_readProduct_2 (fun H locs wo => ?_)
  refine lv_istore_n (lv' := [(2, .int q1.1), (0, .ref (B + a0)), (1, .int x1)]) cx.1 cx.2.1 dX6_readProduct_5 rfl hl (by decide) rfl (fun ls hl => ?_)
  refine lv_iconst (v := 0) cx.1 cx.2.1 dX6_readProduct_6 (by decide) ?_
  refine lv_istore_n (lv' := [(3, .int 0), (2, .int q1.1), (0, .ref (B + a0)), (1, .int x1)]) cx.1 cx.2.1 dX6_readProduct_7 rfl hl (by decide) rfl (fun ls hl => ?_)
  exact wX6_readProduct_8 hK hrc cx hr hlk _ _ _ _ _ h0 _ _ hf _ _ _ wo (lv_sub hl [2, 3, 1, 0] rfl)
set_option maxHeartbeats 1000000 in
set_option maxRecDepth 10000 in
theorem wX6_readSum_40 {K : Nat} (hK : 16 ≤ K) {rc : Nat → Int32 → Mem → Option (Int32 × Mem)} (hrc : ∀ {a0 : Nat} {x1 : Int32} {M : Mem} {q : Int32 × Mem} (h0 : a0 ∈ rules), rc a0 x1 M = some q → Met l yX6_readExpression (wsG yX6_readExpression cX6_readExpression 3 (some .boolean)) (rmN (K)) (PcW Ph G B 205 M [.ref (B + a0), .int x1]) (QcI Ph G B 205 q.1 q.2) 0 0 (fr B)) (cx : Cx p s m args c cX6_readSum 5 RX6 G) (hr : meth.sig.returnType = (some .boolean)) (hlk : meth.locks = false) {k8 : Nat → Int32 → Int32 → Int32 → Mem → Option (Int32 × Mem)} (hk8 : ∀ (a0 : Nat) (x1 : Int32) (x2 : Int32) (x3 : Int32) (h0 : a0 ∈ rules) (M : Mem) (q : Int32 × Mem), k8 a0 x1 x2 x3 M = some q → ∀ (H : Heap) (locs : List Loc) (ls : Array Slot), Wo Ph G B 205 s M H locs → lv_has ls 5 [(0, .ref (B + a0)), (1, .int x1), (2, .int x2), (3, .int x3)] → W p l e (rmN (K + 4)) s m args below meth c H locs 0 0 (MQ below (QcI Ph G B 205 q.1 q.2) args s 0 0 (fr B)) (F0 m 8 ls [])) : ∀ (a0 : Nat) (x1 : Int32) (x3 : Int32) (x4 : Int32) (h0 : a0 ∈ rules) (M : Mem) (q : Int32 × Mem), fX6_readSum_40 rc k8 a0 x1 x3 x4 M = some q → ∀ (H : Heap) (locs : List Loc) (ls : Array Slot), Wo Ph G B 205 s M H locs → lv_has ls 5 [(0, .ref (B + a0)), (1, .int x1), (3, .int x3), (4, .int x4)] → W p l e (rmN (K + 4)) s m args below meth c H locs 0 0 (MQ below (QcI Ph G B 205 q.1 q.2) args s 0 0 (fr B)) (F0 m 40 ls []) := by
  intro a0 x1 x3 x4 h0 M q hf H locs ls wo hl
  unfold fX6_readSum_40 at hf
  refine lv_aload_n cx.1 cx.2.1 dX6_readSum_40 rfl (lv_at hl 0 rfl) ?_
  refine lv_dup cx.1 cx.2.1 dX6_readSum_41 rfl ?_
  refine r_getI cx wo (rul_ok _ h0).1.1 (rul_ok _ h0).1.2.1 (rul_ok _ h0).1.2.2 fiX6_43 dX6_readSum_42 ?_
  refine lv_iconst (v := 1) cx.1 cx.2.1 dX6_readSum_45 (by decide) ?_
  refine lv_iadd cx.1 cx.2.1 dX6_readSum_46 ?_
  obtain ⟨M11, e12, hf⟩ := lt_elim hf
  refine r_putI cx wo (rul_ok _ h0).1.1 (rul_ok _ h0).1.2.1 (rul_ok _ h0).1.2.2 fpX6_43 dX6_readSum_47 (fun H locs wo => ?_)
  rw [← e12] at wo
  refine lv_aload_n cx.1 cx.2.1 dX6_readSum_50 rfl (lv_at hl 0 rfl) ?_
  refine lv_iload_n cx.1 cx.2.1 dX6_readSum_51 rfl (lv_at hl 1 rfl) ?_
  obtain ⟨q13, e14, hf⟩ := bd_elim hf
  refine r_Vi (rest := []) cx wo (mX6_readProduct l hK hrc h0 e14) cvX6_60 rfl (rul_ok _ h0).1.1 (rul_ok _ h0).1.2.1 (rul_ok _ h0).1.2.2 rfl rfl hl.1 rfl (Nat.le_of_ble_eq_true rfl) (hR_ok (by omega)) dX6_readSum_52 (fun H locs wo => ?_)
  refine lv_istore_n (lv' := [(2, .int q13.1), (0, .ref (B + a0)), (1, .int x1), (3, .int x3), (4, .int x4)]) cx.1 cx.2.1 dX6_readSum_55 rfl hl (by decide) rfl (fun ls hl => ?_)
  refine lv_aload_n cx.1 cx.2.1 dX6_readSum_56 rfl (lv_at hl 1 rfl) ?_
  refine lv_iload cx.1 cx.2.1 dX6_readSum_57 (lv_at hl 4 rfl) ?_
  refine lv_ineg cx.1 cx.2.1 dX6_readSum_59 ?_
  obtain ⟨q15, e16, hf⟩ := bd_elim hf
  refine r_Vv (rest := []) cx wo (mX6_emit l h0 e16) cvX6_36 rfl (rul_ok _ h0).1.1 (rul_ok _ h0).1.2.1 (rul_ok _ h0).1.2.2 rfl rfl hl.1 rfl (Nat.le_of_ble_eq_true rfl) (hR_ok (by omega)) dX6_readSum_60 (fun H locs wo => ?_)
  obtain ⟨y17, e18, hf⟩ := lt_elim hf
  refine lv_iinc (v := y17) (lv' := [(3, .int y17), (2, .int q13.1), (0, .ref (B + a0)), (1, .int x1), (4, .int x4)]) cx.1 cx.2.1 dX6_readSum_63 hl (k := 3) rfl (by rw [e18]; rfl) (by decide) rfl (fun ls hl => ?_)
  refine lv_goto (tgt := 8) cx.1 cx.2.1 dX6_readSum_66 (by decide) ?_
  exact hk8 _ _ _ _ h0 _ _ hf _ _ _ wo (lv_sub hl [2, 3, 1, 0] rfl)
set_option maxHeartbeats 1000000 in
set_option maxRecDepth 10000 in
theorem wX6_readSum_8 {K : Nat} (hK : 16 ≤ K) {rc : Nat → Int32 → Mem → Option (Int32 × Mem)} (hrc : ∀ {a0 : Nat} {x1 : Int32} {M : Mem} {q : Int32 × Mem} (h0 : a0 ∈ rules), rc a0 x1 M = some q → Met l yX6_readExpression (wsG yX6_readExpression cX6_readExpression 3 (some .boolean)) (rmN (K)) (PcW Ph G B 205 M [.ref (B + a0), .int x1]) (QcI Ph G B 205 q.1 q.2) 0 0 (fr B)) (cx : Cx p s m args c cX6_readSum 5 RX6 G) (hr : meth.sig.returnType = (some .boolean)) (hlk : meth.locks = false) : ∀ (n : Nat) (a0 : Nat) (x1 : Int32) (x2 : Int32) (x3 : Int32) (h0 : a0 ∈ rules) (M : Mem) (q : Int32 × Mem), fX6_readSum_8 rc n a0 x1 x2 x3 M = some q → ∀ (H : Heap) (locs : List Loc) (ls : Array Slot), Wo Ph G B 205 s M H locs → lv_has ls 5 [(0, .ref (B + a0)), (1, .int x1), (2, .int x2), (3, .int x3)] → W p l e (rmN (K + 4)) s m args below meth c H locs 0 0 (MQ below (QcI Ph G B 205 q.1 q.2) args s 0 0 (fr B)) (F0 m 8 ls []) := by
  intro n
  induction n with
  | zero =>
    intro a0 x1 x2 x3 h0 M q hf H locs ls wo hl
    have hf : none = some q := hf
    cases hf
  | succ n ih =>
    intro a0 x1 x2 x3 h0 M q hf H locs ls wo hl
    rw [fX6_readSum_8] at hf
    refine lv_iload_n cx.1 cx.2.1 dX6_readSum_8 rfl (lv_at hl 3 rfl) ?_
    refine lv_bipush (v := 40) cx.1 cx.2.1 dX6_readSum_9 (by decide) ?_
    refine lv_icmp_ge (tgt := 69) cx.1 cx.2.1 dX6_readSum_11 (by decide) (fun c3 => ?_) (fun c3 => ?_)
    · rw [if_pos c3] at hf
      refine lv_iload_n cx.1 cx.2.1 dX6_readSum_69 rfl (lv_at hl 2 rfl) ?_
      obtain ⟨g4, hf⟩ := gd_elim hf
      have hq := Option.some.inj hf
      subst hq
      exact r_zret cx wo hr hlk g4 dX6_readSum_70
    · rw [if_neg c3] at hf
      refine lv_iload_n cx.1 cx.2.1 dX6_readSum_14 rfl (lv_at hl 2 rfl) ?_
      refine lv_if_eq (tgt := 69) cx.1 cx.2.1 dX6_readSum_15 (by decide) (fun c5 => ?_) (fun c5 => ?_)
      · rw [if_pos c5] at hf
        refine lv_iload_n cx.1 cx.2.1 dX6_readSum_69 rfl (lv_at hl 2 rfl) ?_
        obtain ⟨g6, hf⟩ := gd_elim hf
        have hq := Option.some.inj hf
        subst hq
        exact r_zret cx wo hr hlk g6 dX6_readSum_70
      · rw [if_neg c5] at hf
        refine lv_aload_n cx.1 cx.2.1 dX6_readSum_18 rfl (lv_at hl 0 rfl) ?_
        obtain ⟨q7, e8, hf⟩ := bd_elim hf
        refine r_Vi (rest := []) cx wo (mX6_peek l h0 e8) cvX6_56 rfl (rul_ok _ h0).1.1 (rul_ok _ h0).1.2.1 (rul_ok _ h0).1.2.2 rfl rfl hl.1 rfl (Nat.le_of_ble_eq_true rfl) (hR_ok (by omega)) dX6_readSum_19 (fun H locs wo => ?_)
        refine lv_istore (lv' := [(4, .int q7.1), (0, .ref (B + a0)), (1, .int x1), (2, .int x2), (3, .int x3)]) cx.1 cx.2.1 dX6_readSum_22 hl (by decide) rfl (fun ls hl => ?_)
        refine lv_iload cx.1 cx.2.1 dX6_readSum_24 (lv_at hl 0 rfl) ?_
        refine lv_bipush (v := 43) cx.1 cx.2.1 dX6_readSum_26 (by decide) ?_
        refine lv_icmp_eq (tgt := 40) cx.1 cx.2.1 dX6_readSum_28 (by decide) (fun c9 => ?_) (fun c9 => ?_)
        · rw [if_pos c9] at hf
          exact wX6_readSum_40 hK hrc cx hr hlk ih _ _ _ _ h0 _ _ hf _ _ _ wo (lv_sub hl [1, 2, 4, 0] rfl)
        · rw [if_neg c9] at hf
          refine lv_iload cx.1 cx.2.1 dX6_readSum_31 (lv_at hl 0 rfl) ?_
          refine lv_bipush (v := 45) cx.1 cx.2.1 dX6_readSum_33 (by decide) ?_
          refine lv_icmp_eq (tgt := 40) cx.1 cx.2.1 dX6_readSum_35 (by decide) (fun c10 => ?_) (fun c10 => ?_)
          · rw [if_pos c10] at hf
            exact wX6_readSum_40 hK hrc cx hr hlk ih _ _ _ _ h0 _ _ hf _ _ _ wo (lv_sub hl [1, 2, 4, 0] rfl)
          · rw [if_neg c10] at hf
            refine lv_iconst (v := 1) cx.1 cx.2.1 dX6_readSum_38 (by decide) ?_
            have hq := Option.some.inj hf
            subst hq
            exact r_zret cx wo hr hlk (Or.inr rfl) dX6_readSum_39
set_option maxHeartbeats 1000000 in
set_option maxRecDepth 10000 in
theorem mX6_readSum (l : Launch) {G : GG} {B : Nat} {K : Nat} (hK : 16 ≤ K) {rc : Nat → Int32 → Mem → Option (Int32 × Mem)} (hrc : ∀ {a0 : Nat} {x1 : Int32} {M : Mem} {q : Int32 × Mem} (h0 : a0 ∈ rules), rc a0 x1 M = some q → Met l yX6_readExpression (wsG yX6_readExpression cX6_readExpression 3 (some .boolean)) (rmN (K)) (PcW Ph G B 205 M [.ref (B + a0), .int x1]) (QcI Ph G B 205 q.1 q.2) 0 0 (fr B)) {a0 : Nat} {x1 : Int32} (h0 : a0 ∈ rules) {M : Mem} {q : Int32 × Mem} (hf : fX6_readSum rc a0 x1 M = some q) : Met l yX6_readSum (wsG yX6_readSum cX6_readSum 5 (some .boolean)) (rmN (K + 4)) (PcW Ph G B 205 M [.ref (B + a0), .int x1]) (QcI Ph G B 205 q.1 q.2) 0 0 (fr B) := by
  refine mk_Met (own := RX6) rfl rfl (Nat.le_of_ble_eq_true rfl) ?_
  intro p e s m below meth c ls cx hr hlk wo hl
  have hl : lv_has ls 5 [(0, .ref (B + a0)), (1, .int x1)] := hl
  unfold fX6_readSum at hf
  refine lv_aload_n cx.1 cx.2.1 dX6_readSum_0 rfl (lv_at hl 0 rfl) ?_
  refine lv_iload_n cx.1 cx.2.1 dX6_readSum_1 rfl (lv_at hl 1 rfl) ?_
  obtain ⟨q1, e2, hf⟩ := bd_elim hf
  refine r_Vi (rest := []) cx wo (mX6_readProduct l hK hrc h0 e2) cvX6_60 rfl (rul_ok _ h0).1.1 (rul_ok _ h0).1.2.1 (rul_ok _ h0).1.2.2 rfl rfl hl.1 rfl (Nat.le_of_ble_eq_true rfl) (hR_ok (by omega)) dX6_readSum_2 (fun H locs wo => ?_)
  refine lv_istore_n (lv' := [(2, .int q1.1), (0, .ref (B + a0)), (1, .int x1)]) cx.1 cx.2.1 dX6_readSum_5 rfl hl (by decide) rfl (fun ls hl => ?_)
  refine lv_iconst (v := 0) cx.1 cx.2.1 dX6_readSum_6 (by decide) ?_
  refine lv_istore_n (lv' := [(3, .int 0), (2, .int q1.1), (0, .ref (B + a0)), (1, .int x1)]) cx.1 cx.2.1 dX6_readSum_7 rfl hl (by decide) rfl (fun ls hl => ?_)
  exact wX6_readSum_8 hK hrc cx hr hlk _ _ _ _ _ h0 _ _ hf _ _ _ wo (lv_sub hl [2, 3, 1, 0] rfl)
set_option maxHeartbeats 1000000 in
set_option maxRecDepth 10000 in
theorem wX6_readExpression_35 {K : Nat} (hK : 16 ≤ K) {rc : Nat → Int32 → Mem → Option (Int32 × Mem)} (hrc : ∀ {a0 : Nat} {x1 : Int32} {M : Mem} {q : Int32 × Mem} (h0 : a0 ∈ rules), rc a0 x1 M = some q → Met l yX6_readExpression (wsG yX6_readExpression cX6_readExpression 3 (some .boolean)) (rmN (K)) (PcW Ph G B 205 M [.ref (B + a0), .int x1]) (QcI Ph G B 205 q.1 q.2) 0 0 (fr B)) (cx : Cx p s m args c cX6_readExpression 3 RX6 G) (hr : meth.sig.returnType = (some .boolean)) (hlk : meth.locks = false) : ∀ (a0 : Nat) (x1 : Int32) (x2 : Int32) (h0 : a0 ∈ rules) (M : Mem) (q : Int32 × Mem), fX6_readExpression_35 rc a0 x1 x2 M = some q → ∀ (H : Heap) (locs : List Loc) (ls : Array Slot), Wo Ph G B 205 s M H locs → lv_has ls 3 [(0, .ref (B + a0)), (1, .int x1), (2, .int x2)] → W p l e (rmN (K + 5)) s m args below meth c H locs 0 0 (MQ below (QcI Ph G B 205 q.1 q.2) args s 0 0 (fr B)) (F0 m 35 ls []) := by
  intro a0 x1 x2 h0 M q hf H locs ls wo hl
  unfold fX6_readExpression_35 at hf
  refine lv_aload_n cx.1 cx.2.1 dX6_readExpression_35 rfl (lv_at hl 0 rfl) ?_
  refine lv_dup cx.1 cx.2.1 dX6_readExpression_36 rfl ?_
  refine r_getI cx wo (rul_ok _ h0).1.1 (rul_ok _ h0).1.2.1 (rul_ok _ h0).1.2.2 fiX6_43 dX6_readExpression_37 ?_
  refine lv_iconst (v := 1) cx.1 cx.2.1 dX6_readExpression_40 (by decide) ?_
  refine lv_iadd cx.1 cx.2.1 dX6_readExpression_41 ?_
  obtain ⟨M9, e10, hf⟩ := lt_elim hf
  refine r_putI cx wo (rul_ok _ h0).1.1 (rul_ok _ h0).1.2.1 (rul_ok _ h0).1.2.2 fpX6_43 dX6_readExpression_42 (fun H locs wo => ?_)
  rw [← e10] at wo
  refine lv_aload_n cx.1 cx.2.1 dX6_readExpression_45 rfl (lv_at hl 0 rfl) ?_
  refine lv_iload_n cx.1 cx.2.1 dX6_readExpression_46 rfl (lv_at hl 1 rfl) ?_
  obtain ⟨q11, e12, hf⟩ := bd_elim hf
  refine r_Vi (rest := []) cx wo (mX6_readSum l hK hrc h0 e12) cvX6_53 rfl (rul_ok _ h0).1.1 (rul_ok _ h0).1.2.1 (rul_ok _ h0).1.2.2 rfl rfl hl.1 rfl (Nat.le_of_ble_eq_true rfl) (hR_ok (by omega)) dX6_readExpression_47 (fun H locs wo => ?_)
  refine lv_if_ne (tgt := 55) cx.1 cx.2.1 dX6_readExpression_50 (by decide) (fun c13 => ?_) (fun c13 => ?_)
  · rw [if_neg c13] at hf
    refine lv_aload_n cx.1 cx.2.1 dX6_readExpression_55 rfl (lv_at hl 0 rfl) ?_
    refine lv_iload_n cx.1 cx.2.1 dX6_readExpression_56 rfl (lv_at hl 2 rfl) ?_
    refine lv_ineg cx.1 cx.2.1 dX6_readExpression_57 ?_
    obtain ⟨q14, e15, hf⟩ := bd_elim hf
    refine r_Vv (rest := []) cx wo (mX6_emit l h0 e15) cvX6_36 rfl (rul_ok _ h0).1.1 (rul_ok _ h0).1.2.1 (rul_ok _ h0).1.2.2 rfl rfl hl.1 rfl (Nat.le_of_ble_eq_true rfl) (hR_ok (by omega)) dX6_readExpression_58 (fun H locs wo => ?_)
    refine lv_iconst (v := 1) cx.1 cx.2.1 dX6_readExpression_61 (by decide) ?_
    have hq := Option.some.inj hf
    subst hq
    exact r_zret cx wo hr hlk (Or.inr rfl) dX6_readExpression_62
  · rw [if_pos c13] at hf
    refine lv_iconst (v := 0) cx.1 cx.2.1 dX6_readExpression_53 (by decide) ?_
    have hq := Option.some.inj hf
    subst hq
    exact r_zret cx wo hr hlk (Or.inl rfl) dX6_readExpression_54
set_option maxHeartbeats 1000000 in
set_option maxRecDepth 10000 in
theorem mX6_readExpression_b (l : Launch) {G : GG} {B : Nat} {K : Nat} (hK : 16 ≤ K) {rc : Nat → Int32 → Mem → Option (Int32 × Mem)} (hrc : ∀ {a0 : Nat} {x1 : Int32} {M : Mem} {q : Int32 × Mem} (h0 : a0 ∈ rules), rc a0 x1 M = some q → Met l yX6_readExpression (wsG yX6_readExpression cX6_readExpression 3 (some .boolean)) (rmN (K)) (PcW Ph G B 205 M [.ref (B + a0), .int x1]) (QcI Ph G B 205 q.1 q.2) 0 0 (fr B)) {a0 : Nat} {x1 : Int32} (h0 : a0 ∈ rules) {M : Mem} {q : Int32 × Mem} (hf : fX6_readExpression_b rc a0 x1 M = some q) : Met l yX6_readExpression (wsG yX6_readExpression cX6_readExpression 3 (some .boolean)) (rmN (K + 5)) (PcW Ph G B 205 M [.ref (B + a0), .int x1]) (QcI Ph G B 205 q.1 q.2) 0 0 (fr B) := by
  refine mk_Met (own := RX6) rfl rfl (Nat.le_of_ble_eq_true rfl) ?_
  intro p e s m below meth c ls cx hr hlk wo hl
  have hl : lv_has ls 3 [(0, .ref (B + a0)), (1, .int x1)] := hl
  unfold fX6_readExpression_b at hf
  refine lv_aload_n cx.1 cx.2.1 dX6_readExpression_0 rfl (lv_at hl 0 rfl) ?_
  refine lv_iload_n cx.1 cx.2.1 dX6_readExpression_1 rfl (lv_at hl 1 rfl) ?_
  obtain ⟨q1, e2, hf⟩ := bd_elim hf
  refine r_Vi (rest := []) cx wo (mX6_readSum l hK hrc h0 e2) cvX6_53 rfl (rul_ok _ h0).1.1 (rul_ok _ h0).1.2.1 (rul_ok _ h0).1.2.2 rfl rfl hl.1 rfl (Nat.le_of_ble_eq_true rfl) (hR_ok (by omega)) dX6_readExpression_2 (fun H locs wo => ?_)
  refine lv_if_ne (tgt := 10) cx.1 cx.2.1 dX6_readExpression_5 (by decide) (fun c3 => ?_) (fun c3 => ?_)
  · rw [if_neg c3] at hf
    refine lv_aload_n cx.1 cx.2.1 dX6_readExpression_10 rfl (lv_at hl 0 rfl) ?_
    obtain ⟨q4, e5, hf⟩ := bd_elim hf
    refine r_Vi (rest := []) cx wo (mX6_peek l h0 e5) cvX6_56 rfl (rul_ok _ h0).1.1 (rul_ok _ h0).1.2.1 (rul_ok _ h0).1.2.2 rfl rfl hl.1 rfl (Nat.le_of_ble_eq_true rfl) (hR_ok (by omega)) dX6_readExpression_11 (fun H locs wo => ?_)
    refine lv_istore_n (lv' := [(2, .int q4.1), (0, .ref (B + a0)), (1, .int x1)]) cx.1 cx.2.1 dX6_readExpression_14 rfl hl (by decide) rfl (fun ls hl => ?_)
    refine lv_iload_n cx.1 cx.2.1 dX6_readExpression_15 rfl (lv_at hl 0 rfl) ?_
    refine lv_bipush (v := 60) cx.1 cx.2.1 dX6_readExpression_16 (by decide) ?_
    refine lv_icmp_eq (tgt := 35) cx.1 cx.2.1 dX6_readExpression_18 (by decide) (fun c6 => ?_) (fun c6 => ?_)
    · rw [if_pos c6] at hf
      exact wX6_readExpression_35 hK hrc cx hr hlk _ _ _ h0 _ _ hf _ _ _ wo (lv_sub hl [1, 2, 0] rfl)
    · rw [if_neg c6] at hf
      refine lv_iload_n cx.1 cx.2.1 dX6_readExpression_21 rfl (lv_at hl 0 rfl) ?_
      refine lv_bipush (v := 62) cx.1 cx.2.1 dX6_readExpression_22 (by decide) ?_
      refine lv_icmp_eq (tgt := 35) cx.1 cx.2.1 dX6_readExpression_24 (by decide) (fun c7 => ?_) (fun c7 => ?_)
      · rw [if_pos c7] at hf
        exact wX6_readExpression_35 hK hrc cx hr hlk _ _ _ h0 _ _ hf _ _ _ wo (lv_sub hl [1, 2, 0] rfl)
      · rw [if_neg c7] at hf
        refine lv_iload_n cx.1 cx.2.1 dX6_readExpression_27 rfl (lv_at hl 0 rfl) ?_
        refine lv_bipush (v := 61) cx.1 cx.2.1 dX6_readExpression_28 (by decide) ?_
        refine lv_icmp_eq (tgt := 35) cx.1 cx.2.1 dX6_readExpression_30 (by decide) (fun c8 => ?_) (fun c8 => ?_)
        · rw [if_pos c8] at hf
          exact wX6_readExpression_35 hK hrc cx hr hlk _ _ _ h0 _ _ hf _ _ _ wo (lv_sub hl [1, 2, 0] rfl)
        · rw [if_neg c8] at hf
          refine lv_iconst (v := 1) cx.1 cx.2.1 dX6_readExpression_33 (by decide) ?_
          have hq := Option.some.inj hf
          subst hq
          exact r_zret cx wo hr hlk (Or.inr rfl) dX6_readExpression_34
  · rw [if_pos c3] at hf
    refine lv_iconst (v := 0) cx.1 cx.2.1 dX6_readExpression_8 (by decide) ?_
    have hq := Option.some.inj hf
    subst hq
    exact r_zret cx wo hr hlk (Or.inl rfl) dX6_readExpression_9
theorem mX6_readExpression (l : Launch) {G : GG} {B : Nat} : ∀ (d : Nat) {a0 : Nat} {x1 : Int32} {M : Mem} {q : Int32 × Mem} (h0 : a0 ∈ rules), fX6_readExpression d a0 x1 M = some q → Met l yX6_readExpression (wsG yX6_readExpression cX6_readExpression 3 (some .boolean)) (rmN (16 + 5 * d)) (PcW Ph G B 205 M [.ref (B + a0), .int x1]) (QcI Ph G B 205 q.1 q.2) 0 0 (fr B) := by
  intro d
  induction d with
  | zero =>
    intro a0 x1 M q h0 hf
    have hf : none = some q := hf
    cases hf
  | succ d ih =>
    intro a0 x1 M q h0 hf
    have hf : fX6_readExpression_b (fX6_readExpression d) a0 x1 M = some q := hf
    exact mX6_readExpression_b l (K := 16 + 5 * d) (by omega) (fun h0 hf => ih h0 hf) h0 hf
set_option maxHeartbeats 1000000 in
set_option maxRecDepth 10000 in
theorem mX6_compile (l : Launch) {G : GG} {B : Nat} {a0 : Nat} (h0 : a0 ∈ rules) {M : Mem} {q : Int32 × Mem} (hf : fX6_compile a0 M = some q) : Met l yX6_compile (wsG yX6_compile cX6_compile 1 (some .int)) (rmN (47)) (PcW Ph G B 205 M [.ref (B + a0)]) (QcI Ph G B 205 q.1 q.2) 0 0 (fr B) := by
  refine mk_Met (own := RX6) rfl rfl (Nat.le_of_ble_eq_true rfl) ?_
  intro p e s m below meth c ls cx hr hlk wo hl
  have hl : lv_has ls 1 [(0, .ref (B + a0))] := hl
  unfold fX6_compile at hf
  refine lv_aload_n cx.1 cx.2.1 dX6_compile_0 rfl (lv_at hl 0 rfl) ?_
  refine r_getR cx wo (rul_ok _ h0).1.1 (rul_ok _ h0).1.2.1 (rul_ok _ h0).1.2.2 fiX6_21 (ru_fn5 wo.2.2.2.1 h0) (by decide) dX6_compile_1 ?_
  refine r_getI cx wo ad_2.1 ad_2.2.1 ad_2.2.2 fiX6_40 dX6_compile_4 ?_
  refine lv_if_ne (tgt := 16) cx.1 cx.2.1 dX6_compile_7 (by decide) (fun c1 => ?_) (fun c1 => ?_)
  · rw [if_neg c1] at hf
    refine lv_aload_n cx.1 cx.2.1 dX6_compile_16 rfl (lv_at hl 0 rfl) ?_
    refine lv_iconst (v := 0) cx.1 cx.2.1 dX6_compile_17 (by decide) ?_
    obtain ⟨M2, e3, hf⟩ := lt_elim hf
    refine r_putI cx wo (rul_ok _ h0).1.1 (rul_ok _ h0).1.2.1 (rul_ok _ h0).1.2.2 fpX6_28 dX6_compile_18 (fun H locs wo => ?_)
    rw [← e3] at wo
    refine lv_aload_n cx.1 cx.2.1 dX6_compile_21 rfl (lv_at hl 0 rfl) ?_
    refine lv_iconst (v := 0) cx.1 cx.2.1 dX6_compile_22 (by decide) ?_
    obtain ⟨M4, e5, hf⟩ := lt_elim hf
    refine r_putZ cx wo (rul_ok _ h0).1.1 (rul_ok _ h0).1.2.1 (rul_ok _ h0).1.2.2 fpX6_32 (Or.inl rfl) dX6_compile_23 (fun H locs wo => ?_)
    rw [← e5] at wo
    refine lv_aload_n cx.1 cx.2.1 dX6_compile_26 rfl (lv_at hl 0 rfl) ?_
    refine lv_iconst (v := 0) cx.1 cx.2.1 dX6_compile_27 (by decide) ?_
    obtain ⟨M6, e7, hf⟩ := lt_elim hf
    refine r_putI cx wo (rul_ok _ h0).1.1 (rul_ok _ h0).1.2.1 (rul_ok _ h0).1.2.2 fpX6_43 dX6_compile_28 (fun H locs wo => ?_)
    rw [← e7] at wo
    refine lv_aload_n cx.1 cx.2.1 dX6_compile_31 rfl (lv_at hl 0 rfl) ?_
    refine lv_iconst (v := 0) cx.1 cx.2.1 dX6_compile_32 (by decide) ?_
    obtain ⟨q8, e9, hf⟩ := bd_elim hf
    refine r_Vi (rest := []) cx wo (mX6_readExpression l 6 h0 e9) cvX6_46 rfl (rul_ok _ h0).1.1 (rul_ok _ h0).1.2.1 (rul_ok _ h0).1.2.2 rfl rfl hl.1 rfl (Nat.le_of_ble_eq_true rfl) (hR_ok (by decide)) dX6_compile_33 (fun H locs wo => ?_)
    refine lv_if_eq (tgt := 57) cx.1 cx.2.1 dX6_compile_36 (by decide) (fun c10 => ?_) (fun c10 => ?_)
    · rw [if_pos c10] at hf
      refine lv_aload_n cx.1 cx.2.1 dX6_compile_57 rfl (lv_at hl 0 rfl) ?_
      refine r_getI cx wo (rul_ok _ h0).1.1 (rul_ok _ h0).1.2.1 (rul_ok _ h0).1.2.2 fiX6_43 dX6_compile_58 ?_
      have hq := Option.some.inj hf
      subst hq
      exact r_iret cx wo hr hlk dX6_compile_61
    · rw [if_neg c10] at hf
      refine lv_aload_n cx.1 cx.2.1 dX6_compile_39 rfl (lv_at hl 0 rfl) ?_
      refine r_getI cx wo (rul_ok _ h0).1.1 (rul_ok _ h0).1.2.1 (rul_ok _ h0).1.2.2 fiX6_43 dX6_compile_40 ?_
      refine lv_aload_n cx.1 cx.2.1 dX6_compile_43 rfl (lv_at hl 0 rfl) ?_
      refine r_getR cx wo (rul_ok _ h0).1.1 (rul_ok _ h0).1.2.1 (rul_ok _ h0).1.2.2 fiX6_21 (ru_fn5 wo.2.2.2.1 h0) (by decide) dX6_compile_44 ?_
      refine r_getI cx wo ad_2.1 ad_2.2.1 ad_2.2.2 fiX6_40 dX6_compile_47 ?_
      refine lv_icmp_lt (tgt := 57) cx.1 cx.2.1 dX6_compile_50 (by decide) (fun c11 => ?_) (fun c11 => ?_)
      · rw [if_pos c11] at hf
        refine lv_aload_n cx.1 cx.2.1 dX6_compile_57 rfl (lv_at hl 0 rfl) ?_
        refine r_getI cx wo (rul_ok _ h0).1.1 (rul_ok _ h0).1.2.1 (rul_ok _ h0).1.2.2 fiX6_43 dX6_compile_58 ?_
        have hq := Option.some.inj hf
        subst hq
        exact r_iret cx wo hr hlk dX6_compile_61
      · rw [if_neg c11] at hf
        refine lv_iconst (v := (-1)) cx.1 cx.2.1 dX6_compile_53 (by decide) ?_
        refine lv_goto (tgt := 61) cx.1 cx.2.1 dX6_compile_54 (by decide) ?_
        have hq := Option.some.inj hf
        subst hq
        exact r_iret cx wo hr hlk dX6_compile_61
  · rw [if_pos c1] at hf
    refine lv_aload_n cx.1 cx.2.1 dX6_compile_10 rfl (lv_at hl 0 rfl) ?_
    obtain ⟨q12, e13, hf⟩ := bd_elim hf
    refine r_Vv (rest := []) cx wo (mX6_takeStandard l h0 e13) cvX6_25 rfl (rul_ok _ h0).1.1 (rul_ok _ h0).1.2.1 (rul_ok _ h0).1.2.2 rfl rfl hl.1 rfl (Nat.le_of_ble_eq_true rfl) (hR_ok (by decide)) dX6_compile_11 (fun H locs wo => ?_)
    refine lv_iconst (v := (-1)) cx.1 cx.2.1 dX6_compile_14 (by decide) ?_
    have hq := Option.some.inj hf
    subst hq
    exact r_iret cx wo hr hlk dX6_compile_15
set_option maxHeartbeats 1000000 in
set_option maxRecDepth 10000 in
theorem mX6_joined (l : Launch) {G : GG} {B : Nat} {x0 : Int32} {x1 : Int32} {x2 : Int32}  {M : Mem} {q : Int32 × Mem} (hf : fX6_joined x0 x1 x2 M = some q) : Met l yX6_joined (wsG yX6_joined cX6_joined 3 (some .int)) (rmN (2)) (PcW Ph G B 205 M [.int x0, .int x1, .int x2]) (QcI Ph G B 205 q.1 q.2) 0 0 (fr B) := by
  refine mk_Met (own := RX6) rfl rfl (Nat.le_of_ble_eq_true rfl) ?_
  intro p e s m below meth c ls cx hr hlk wo hl
  have hl : lv_has ls 3 [(0, .int x0), (1, .int x1), (2, .int x2)] := hl
  unfold fX6_joined at hf
  refine lv_iload_n cx.1 cx.2.1 dX6_joined_0 rfl (lv_at hl 0 rfl) ?_
  by_cases c1 : x0 = 42
  · refine r_tlk (tgt := 68) cx c1 dX6_joined_1 (by decide) rfl (by decide) ?_
    rw [if_pos c1] at hf
    refine lv_iload_n cx.1 cx.2.1 dX6_joined_68 rfl (lv_at hl 1 rfl) ?_
    refine lv_iload_n cx.1 cx.2.1 dX6_joined_69 rfl (lv_at hl 2 rfl) ?_
    refine lv_imul cx.1 cx.2.1 dX6_joined_70 ?_
    have hq := Option.some.inj hf
    subst hq
    exact r_iret cx wo hr hlk dX6_joined_71
  · rw [if_neg c1] at hf
    by_cases c2 : x0 = 43
    · refine r_tlk (tgt := 60) cx c2 dX6_joined_1 (by decide) rfl (by decide) ?_
      rw [if_pos c2] at hf
      refine lv_iload_n cx.1 cx.2.1 dX6_joined_60 rfl (lv_at hl 1 rfl) ?_
      refine lv_iload_n cx.1 cx.2.1 dX6_joined_61 rfl (lv_at hl 2 rfl) ?_
      refine lv_iadd cx.1 cx.2.1 dX6_joined_62 ?_
      have hq := Option.some.inj hf
      subst hq
      exact r_iret cx wo hr hlk dX6_joined_63
    · rw [if_neg c2] at hf
      by_cases c3 : x0 = 45
      · refine r_tlk (tgt := 64) cx c3 dX6_joined_1 (by decide) rfl (by decide) ?_
        rw [if_pos c3] at hf
        refine lv_iload_n cx.1 cx.2.1 dX6_joined_64 rfl (lv_at hl 1 rfl) ?_
        refine lv_iload_n cx.1 cx.2.1 dX6_joined_65 rfl (lv_at hl 2 rfl) ?_
        refine lv_isub cx.1 cx.2.1 dX6_joined_66 ?_
        have hq := Option.some.inj hf
        subst hq
        exact r_iret cx wo hr hlk dX6_joined_67
      · rw [if_neg c3] at hf
        by_cases c4 : x0 = 47
        · refine r_tlk (tgt := 72) cx c4 dX6_joined_1 (by decide) rfl (by decide) ?_
          rw [if_pos c4] at hf
          refine lv_iload_n cx.1 cx.2.1 dX6_joined_72 rfl (lv_at hl 2 rfl) ?_
          refine lv_if_ne (tgt := 80) cx.1 cx.2.1 dX6_joined_73 (by decide) (fun c5 => ?_) (fun c5 => ?_)
          · rw [if_neg c5] at hf
            refine lv_iload_n cx.1 cx.2.1 dX6_joined_80 rfl (lv_at hl 1 rfl) ?_
            refine lv_iload_n cx.1 cx.2.1 dX6_joined_81 rfl (lv_at hl 2 rfl) ?_
            obtain ⟨g6, hf⟩ := gd_elim hf
            refine lv_idiv cx.1 cx.2.1 dX6_joined_82 g6 ?_
            have hq := Option.some.inj hf
            subst hq
            exact r_iret cx wo hr hlk dX6_joined_83
          · rw [if_pos c5] at hf
            refine lv_iconst (v := 0) cx.1 cx.2.1 dX6_joined_76 (by decide) ?_
            refine lv_goto (tgt := 83) cx.1 cx.2.1 dX6_joined_77 (by decide) ?_
            have hq := Option.some.inj hf
            subst hq
            exact r_iret cx wo hr hlk dX6_joined_83
        · rw [if_neg c4] at hf
          by_cases c7 : x0 = 60
          · refine r_tlk (tgt := 84) cx c7 dX6_joined_1 (by decide) rfl (by decide) ?_
            rw [if_pos c7] at hf
            refine lv_iload_n cx.1 cx.2.1 dX6_joined_84 rfl (lv_at hl 1 rfl) ?_
            refine lv_iload_n cx.1 cx.2.1 dX6_joined_85 rfl (lv_at hl 2 rfl) ?_
            refine lv_icmp_ge (tgt := 93) cx.1 cx.2.1 dX6_joined_86 (by decide) (fun c8 => ?_) (fun c8 => ?_)
            · rw [if_pos c8] at hf
              refine lv_iconst (v := 0) cx.1 cx.2.1 dX6_joined_93 (by decide) ?_
              have hq := Option.some.inj hf
              subst hq
              exact r_iret cx wo hr hlk dX6_joined_94
            · rw [if_neg c8] at hf
              refine lv_iconst (v := 1) cx.1 cx.2.1 dX6_joined_89 (by decide) ?_
              refine lv_goto (tgt := 94) cx.1 cx.2.1 dX6_joined_90 (by decide) ?_
              have hq := Option.some.inj hf
              subst hq
              exact r_iret cx wo hr hlk dX6_joined_94
          · rw [if_neg c7] at hf
            by_cases c9 : x0 = 62
            · refine r_tlk (tgt := 95) cx c9 dX6_joined_1 (by decide) rfl (by decide) ?_
              rw [if_pos c9] at hf
              refine lv_iload_n cx.1 cx.2.1 dX6_joined_95 rfl (lv_at hl 1 rfl) ?_
              refine lv_iload_n cx.1 cx.2.1 dX6_joined_96 rfl (lv_at hl 2 rfl) ?_
              refine lv_icmp_le (tgt := 104) cx.1 cx.2.1 dX6_joined_97 (by decide) (fun c10 => ?_) (fun c10 => ?_)
              · rw [if_pos c10] at hf
                refine lv_iconst (v := 0) cx.1 cx.2.1 dX6_joined_104 (by decide) ?_
                have hq := Option.some.inj hf
                subst hq
                exact r_iret cx wo hr hlk dX6_joined_105
              · rw [if_neg c10] at hf
                refine lv_iconst (v := 1) cx.1 cx.2.1 dX6_joined_100 (by decide) ?_
                refine lv_goto (tgt := 105) cx.1 cx.2.1 dX6_joined_101 (by decide) ?_
                have hq := Option.some.inj hf
                subst hq
                exact r_iret cx wo hr hlk dX6_joined_105
            · rw [if_neg c9] at hf
              have nc1 := i_ne (n := 42) c1 (by decide)
              have mc1 : ¬ (42 : Int) = x0.toInt := fun h => nc1 h.symm
              have nc2 := i_ne (n := 43) c2 (by decide)
              have mc2 : ¬ (43 : Int) = x0.toInt := fun h => nc2 h.symm
              have nc3 := i_ne (n := 45) c3 (by decide)
              have mc3 : ¬ (45 : Int) = x0.toInt := fun h => nc3 h.symm
              have nc4 := i_ne (n := 47) c4 (by decide)
              have mc4 : ¬ (47 : Int) = x0.toInt := fun h => nc4 h.symm
              have nc7 := i_ne (n := 60) c7 (by decide)
              have mc7 : ¬ (60 : Int) = x0.toInt := fun h => nc7 h.symm
              have nc9 := i_ne (n := 62) c9 (by decide)
              have mc9 : ¬ (62 : Int) = x0.toInt := fun h => nc9 h.symm
              refine lv_lookup (off := 105) (tgt := 106) cx.1 cx.2.1 dX6_joined_1 (by decide) (by simp [Op.lookupswitch.offset, mc1, mc2, mc3, mc4, mc7, mc9]) (by decide) ?_
              refine lv_iload_n cx.1 cx.2.1 dX6_joined_106 rfl (lv_at hl 1 rfl) ?_
              refine lv_iload_n cx.1 cx.2.1 dX6_joined_107 rfl (lv_at hl 2 rfl) ?_
              refine lv_icmp_ne (tgt := 115) cx.1 cx.2.1 dX6_joined_108 (by decide) (fun c11 => ?_) (fun c11 => ?_)
              · rw [if_neg c11] at hf
                refine lv_iconst (v := 0) cx.1 cx.2.1 dX6_joined_115 (by decide) ?_
                have hq := Option.some.inj hf
                subst hq
                exact r_iret cx wo hr hlk dX6_joined_116
              · rw [if_pos c11] at hf
                refine lv_iconst (v := 1) cx.1 cx.2.1 dX6_joined_111 (by decide) ?_
                refine lv_goto (tgt := 116) cx.1 cx.2.1 dX6_joined_112 (by decide) ?_
                have hq := Option.some.inj hf
                subst hq
                exact r_iret cx wo hr hlk dX6_joined_116
set_option maxHeartbeats 1000000 in
set_option maxRecDepth 10000 in
theorem wX6_feet_4 (cx : Cx p s m args c cX6_feet 4 RX6 G) (hr : meth.sig.returnType = (some .int)) (hlk : meth.locks = false) : ∀ (n : Nat) (a0 : Nat) (x1 : Int32) (x2 : Int32) (h0 : a0 ∈ rules) (M : Mem) (q : Int32 × Mem), fX6_feet_4 n a0 x1 x2 M = some q → ∀ (H : Heap) (locs : List Loc) (ls : Array Slot), Wo Ph G B 205 s M H locs → lv_has ls 4 [(0, .ref (B + a0)), (1, .int x1), (2, .int x2)] → W p l e (rmN (3)) s m args below meth c H locs 0 0 (MQ below (QcI Ph G B 205 q.1 q.2) args s 0 0 (fr B)) (F0 m 4 ls []) := by
  intro n
  induction n with
  | zero =>
    intro a0 x1 x2 h0 M q hf H locs ls wo hl
    have hf : none = some q := hf
    cases hf
  | succ n ih =>
    intro a0 x1 x2 h0 M q hf H locs ls wo hl
    rw [fX6_feet_4] at hf
    refine lv_iload_n cx.1 cx.2.1 dX6_feet_4 rfl (lv_at hl 2 rfl) ?_
    refine lv_aload_n cx.1 cx.2.1 dX6_feet_5 rfl (lv_at hl 0 rfl) ?_
    refine r_getI cx wo (rul_ok _ h0).1.1 (rul_ok _ h0).1.2.1 (rul_ok _ h0).1.2.2 fiX6_28 dX6_feet_6 ?_
    refine lv_icmp_ge (tgt := 137) cx.1 cx.2.1 dX6_feet_9 (by decide) (fun c1 => ?_) (fun c1 => ?_)
    · rw [if_pos c1] at hf
      refine lv_iconst (v := 0) cx.1 cx.2.1 dX6_feet_137 (by decide) ?_
      refine lv_bipush (v := 20) cx.1 cx.2.1 dX6_feet_138 (by decide) ?_
      refine lv_aload_n cx.1 cx.2.1 dX6_feet_140 rfl (lv_at hl 0 rfl) ?_
      refine r_getR cx wo (rul_ok _ h0).1.1 (rul_ok _ h0).1.2.1 (rul_ok _ h0).1.2.2 fiX6_18 (ru_fn4 wo.2.2.2.1 h0) (by omega) dX6_feet_141 ?_
      refine lv_iconst (v := 0) cx.1 cx.2.1 dX6_feet_144 (by decide) ?_
      obtain ⟨g2, hf⟩ := gd_elim hf
      refine r_iald cx wo (ruA3 h0).1 (ruA3 h0).2.1 (ruA3 h0).2.2 (by rw [(ruL3 h0)]; exact g2) dX6_feet_145 ?_
      refine r_mmin cx hl.1 mmX6_81 (by decide) (Nat.le_of_ble_eq_true rfl) (Nat.zero_le _) (Nat.zero_le _) dX6_feet_146 ?_
      refine r_mmax cx hl.1 mmX6_87 (by decide) (Nat.le_of_ble_eq_true rfl) (Nat.zero_le _) (Nat.zero_le _) dX6_feet_149 ?_
      have hq := Option.some.inj hf
      subst hq
      exact r_iret cx wo hr hlk dX6_feet_152
    · rw [if_neg c1] at hf
      refine lv_aload_n cx.1 cx.2.1 dX6_feet_12 rfl (lv_at hl 0 rfl) ?_
      refine r_getR cx wo (rul_ok _ h0).1.1 (rul_ok _ h0).1.2.1 (rul_ok _ h0).1.2.2 fiX6_11 (ru_fn0 wo.2.2.2.1 h0) (by omega) dX6_feet_13 ?_
      refine lv_iload_n cx.1 cx.2.1 dX6_feet_16 rfl (lv_at hl 2 rfl) ?_
      obtain ⟨g3, hf⟩ := gd_elim hf
      refine r_iald cx wo (ruA1 h0).1 (ruA1 h0).2.1 (ruA1 h0).2.2 (by rw [(ruL1 h0)]; exact g3) dX6_feet_17 ?_
      obtain ⟨y4, e5, hf⟩ := lt_elim hf
      refine r_topi e5 ?_
      refine lv_istore_n (lv' := [(3, .int y4), (0, .ref (B + a0)), (1, .int x1), (2, .int x2)]) cx.1 cx.2.1 dX6_feet_18 rfl hl (by decide) rfl (fun ls hl => ?_)
      refine lv_iload_n cx.1 cx.2.1 dX6_feet_19 rfl (lv_at hl 0 rfl) ?_
      refine lv_bipush (v := (-8)) cx.1 cx.2.1 dX6_feet_20 (by decide) ?_
      refine lv_icmp_le (tgt := 61) cx.1 cx.2.1 dX6_feet_22 (by decide) (fun c6 => ?_) (fun c6 => ?_)
      · rw [if_pos c6] at hf
        refine lv_iload_n cx.1 cx.2.1 dX6_feet_61 rfl (lv_at hl 0 rfl) ?_
        refine lv_bipush (v := (-8)) cx.1 cx.2.1 dX6_feet_62 (by decide) ?_
        refine lv_icmp_ne (tgt := 94) cx.1 cx.2.1 dX6_feet_64 (by decide) (fun c7 => ?_) (fun c7 => ?_)
        · rw [if_neg c7] at hf
          refine lv_iload_n cx.1 cx.2.1 dX6_feet_94 rfl (lv_at hl 2 rfl) ?_
          refine lv_iconst (v := 2) cx.1 cx.2.1 dX6_feet_95 (by decide) ?_
          refine lv_icmp_ge (tgt := 101) cx.1 cx.2.1 dX6_feet_96 (by decide) (fun c8 => ?_) (fun c8 => ?_)
          · rw [if_pos c8] at hf
            obtain ⟨y9, e10, hf⟩ := lt_elim hf
            refine lv_iinc (v := y9) (lv' := [(1, .int y9), (3, .int y4), (0, .ref (B + a0)), (2, .int x2)]) cx.1 cx.2.1 dX6_feet_101 hl (k := 2) rfl (by rw [e10]; rfl) (by decide) rfl (fun ls hl => ?_)
            refine lv_aload_n cx.1 cx.2.1 dX6_feet_104 rfl (lv_at hl 2 rfl) ?_
            refine r_getR cx wo (rul_ok _ h0).1.1 (rul_ok _ h0).1.2.1 (rul_ok _ h0).1.2.2 fiX6_18 (ru_fn4 wo.2.2.2.1 h0) (by omega) dX6_feet_105 ?_
            refine lv_iload_n cx.1 cx.2.1 dX6_feet_108 rfl (lv_at hl 0 rfl) ?_
            refine lv_iconst (v := 1) cx.1 cx.2.1 dX6_feet_109 (by decide) ?_
            refine lv_isub cx.1 cx.2.1 dX6_feet_110 ?_
            refine lv_iload_n cx.1 cx.2.1 dX6_feet_111 rfl (lv_at hl 1 rfl) ?_
            refine lv_ineg cx.1 cx.2.1 dX6_feet_112 ?_
            refine lv_aload_n cx.1 cx.2.1 dX6_feet_113 rfl (lv_at hl 2 rfl) ?_
            refine r_getR cx wo (rul_ok _ h0).1.1 (rul_ok _ h0).1.2.1 (rul_ok _ h0).1.2.2 fiX6_18 (ru_fn4 wo.2.2.2.1 h0) (by omega) dX6_feet_114 ?_
            refine lv_iload_n cx.1 cx.2.1 dX6_feet_117 rfl (lv_at hl 0 rfl) ?_
            refine lv_iconst (v := 1) cx.1 cx.2.1 dX6_feet_118 (by decide) ?_
            refine lv_isub cx.1 cx.2.1 dX6_feet_119 ?_
            obtain ⟨g11, hf⟩ := gd_elim hf
            refine r_iald cx wo (ruA3 h0).1 (ruA3 h0).2.1 (ruA3 h0).2.2 (by rw [(ruL3 h0)]; exact g11) dX6_feet_120 ?_
            refine lv_aload_n cx.1 cx.2.1 dX6_feet_121 rfl (lv_at hl 2 rfl) ?_
            refine r_getR cx wo (rul_ok _ h0).1.1 (rul_ok _ h0).1.2.1 (rul_ok _ h0).1.2.2 fiX6_18 (ru_fn4 wo.2.2.2.1 h0) (by omega) dX6_feet_122 ?_
            refine lv_iload_n cx.1 cx.2.1 dX6_feet_125 rfl (lv_at hl 0 rfl) ?_
            obtain ⟨g12, hf⟩ := gd_elim hf
            refine r_iald cx wo (ruA3 h0).1 (ruA3 h0).2.1 (ruA3 h0).2.2 (by rw [(ruL3 h0)]; exact g12) dX6_feet_126 ?_
            obtain ⟨q13, e14, hf⟩ := bd_elim hf
            refine r_Si (rest := [.int (y9 - 1), .ref (B + (a0 + 3))]) cx wo (mX6_joined l e14) csX6_77 rfl hl.1 rfl (Nat.le_of_ble_eq_true rfl) (hR_ok (by decide)) dX6_feet_127 (fun H locs wo => ?_)
            obtain ⟨g15, hf⟩ := gd_elim hf
            obtain ⟨M16, e17, hf⟩ := lt_elim hf
            refine r_iast cx wo (ruA3 h0).1 (ruA3 h0).2.1 (ruA3 h0).2.2 (by rw [(ruL3 h0)]; exact g15) dX6_feet_130 (fun H locs wo => ?_)
            rw [← e17] at wo
            obtain ⟨y18, e19, hf⟩ := lt_elim hf
            refine lv_iinc (v := y18) (lv' := [(2, .int y18), (1, .int y9), (3, .int y4), (0, .ref (B + a0))]) cx.1 cx.2.1 dX6_feet_131 hl (k := 3) rfl (by rw [e19]; rfl) (by decide) rfl (fun ls hl => ?_)
            refine lv_goto (tgt := 4) cx.1 cx.2.1 dX6_feet_134 (by decide) ?_
            exact ih _ _ _ h0 _ _ hf _ _ _ wo (lv_sub hl [3, 1, 0] rfl)
          · rw [if_neg c8] at hf
            refine lv_iconst (v := 0) cx.1 cx.2.1 dX6_feet_99 (by decide) ?_
            have hq := Option.some.inj hf
            subst hq
            exact r_iret cx wo hr hlk dX6_feet_100
        · rw [if_pos c7] at hf
          refine lv_iload_n cx.1 cx.2.1 dX6_feet_67 rfl (lv_at hl 2 rfl) ?_
          refine lv_iconst (v := 1) cx.1 cx.2.1 dX6_feet_68 (by decide) ?_
          refine lv_icmp_ge (tgt := 74) cx.1 cx.2.1 dX6_feet_69 (by decide) (fun c20 => ?_) (fun c20 => ?_)
          · rw [if_pos c20] at hf
            refine lv_aload_n cx.1 cx.2.1 dX6_feet_74 rfl (lv_at hl 1 rfl) ?_
            refine r_getR cx wo (rul_ok _ h0).1.1 (rul_ok _ h0).1.2.1 (rul_ok _ h0).1.2.2 fiX6_18 (ru_fn4 wo.2.2.2.1 h0) (by omega) dX6_feet_75 ?_
            refine lv_iload_n cx.1 cx.2.1 dX6_feet_78 rfl (lv_at hl 2 rfl) ?_
            refine lv_iconst (v := 1) cx.1 cx.2.1 dX6_feet_79 (by decide) ?_
            refine lv_isub cx.1 cx.2.1 dX6_feet_80 ?_
            refine lv_aload_n cx.1 cx.2.1 dX6_feet_81 rfl (lv_at hl 1 rfl) ?_
            refine r_getR cx wo (rul_ok _ h0).1.1 (rul_ok _ h0).1.2.1 (rul_ok _ h0).1.2.2 fiX6_18 (ru_fn4 wo.2.2.2.1 h0) (by omega) dX6_feet_82 ?_
            refine lv_iload_n cx.1 cx.2.1 dX6_feet_85 rfl (lv_at hl 2 rfl) ?_
            refine lv_iconst (v := 1) cx.1 cx.2.1 dX6_feet_86 (by decide) ?_
            refine lv_isub cx.1 cx.2.1 dX6_feet_87 ?_
            obtain ⟨g21, hf⟩ := gd_elim hf
            refine r_iald cx wo (ruA3 h0).1 (ruA3 h0).2.1 (ruA3 h0).2.2 (by rw [(ruL3 h0)]; exact g21) dX6_feet_88 ?_
            refine lv_ineg cx.1 cx.2.1 dX6_feet_89 ?_
            obtain ⟨g22, hf⟩ := gd_elim hf
            obtain ⟨M23, e24, hf⟩ := lt_elim hf
            refine r_iast cx wo (ruA3 h0).1 (ruA3 h0).2.1 (ruA3 h0).2.2 (by rw [(ruL3 h0)]; exact g22) dX6_feet_90 (fun H locs wo => ?_)
            rw [← e24] at wo
            refine lv_goto (tgt := 131) cx.1 cx.2.1 dX6_feet_91 (by decide) ?_
            obtain ⟨y25, e26, hf⟩ := lt_elim hf
            refine lv_iinc (v := y25) (lv' := [(2, .int y25), (3, .int y4), (0, .ref (B + a0)), (1, .int x1)]) cx.1 cx.2.1 dX6_feet_131 hl (k := 3) rfl (by rw [e26]; rfl) (by decide) rfl (fun ls hl => ?_)
            refine lv_goto (tgt := 4) cx.1 cx.2.1 dX6_feet_134 (by decide) ?_
            exact ih _ _ _ h0 _ _ hf _ _ _ wo (lv_sub hl [2, 3, 0] rfl)
          · rw [if_neg c20] at hf
            refine lv_iconst (v := 0) cx.1 cx.2.1 dX6_feet_72 (by decide) ?_
            have hq := Option.some.inj hf
            subst hq
            exact r_iret cx wo hr hlk dX6_feet_73
      · rw [if_neg c6] at hf
        refine lv_iload_n cx.1 cx.2.1 dX6_feet_25 rfl (lv_at hl 2 rfl) ?_
        refine lv_bipush (v := 40) cx.1 cx.2.1 dX6_feet_26 (by decide) ?_
        refine lv_icmp_lt (tgt := 33) cx.1 cx.2.1 dX6_feet_28 (by decide) (fun c27 => ?_) (fun c27 => ?_)
        · rw [if_pos c27] at hf
          refine lv_aload_n cx.1 cx.2.1 dX6_feet_33 rfl (lv_at hl 1 rfl) ?_
          refine r_getR cx wo (rul_ok _ h0).1.1 (rul_ok _ h0).1.2.1 (rul_ok _ h0).1.2.2 fiX6_18 (ru_fn4 wo.2.2.2.1 h0) (by omega) dX6_feet_34 ?_
          refine lv_iload_n cx.1 cx.2.1 dX6_feet_37 rfl (lv_at hl 2 rfl) ?_
          refine lv_iload_n cx.1 cx.2.1 dX6_feet_38 rfl (lv_at hl 0 rfl) ?_
          refine lv_if_lt (tgt := 46) cx.1 cx.2.1 dX6_feet_39 (by decide) (fun c28 => ?_) (fun c28 => ?_)
          · rw [if_pos c28] at hf
            refine lv_aload_n cx.1 cx.2.1 dX6_feet_46 rfl (lv_at hl 1 rfl) ?_
            refine r_getR cx wo (rul_ok _ h0).1.1 (rul_ok _ h0).1.2.1 (rul_ok _ h0).1.2.2 fiX6_15 (ru_fn3 wo.2.2.2.1 h0) (by omega) dX6_feet_47 ?_
            refine lv_iconst (v := (-1)) cx.1 cx.2.1 dX6_feet_50 (by decide) ?_
            refine lv_iload_n cx.1 cx.2.1 dX6_feet_51 rfl (lv_at hl 0 rfl) ?_
            refine lv_isub cx.1 cx.2.1 dX6_feet_52 ?_
            obtain ⟨g29, hf⟩ := gd_elim hf
            refine r_iald cx wo (ruA2 h0).1 (ruA2 h0).2.1 (ruA2 h0).2.2 (by rw [(ruL2 h0)]; exact g29) dX6_feet_53 ?_
            obtain ⟨g30, hf⟩ := gd_elim hf
            obtain ⟨M31, e32, hf⟩ := lt_elim hf
            refine r_iast cx wo (ruA3 h0).1 (ruA3 h0).2.1 (ruA3 h0).2.2 (by rw [(ruL3 h0)]; exact g30) dX6_feet_54 (fun H locs wo => ?_)
            rw [← e32] at wo
            obtain ⟨y33, e34, hf⟩ := lt_elim hf
            refine lv_iinc (v := y33) (lv' := [(1, .int y33), (3, .int y4), (0, .ref (B + a0)), (2, .int x2)]) cx.1 cx.2.1 dX6_feet_55 hl (k := 2) rfl (by rw [e34]; rfl) (by decide) rfl (fun ls hl => ?_)
            refine lv_goto (tgt := 131) cx.1 cx.2.1 dX6_feet_58 (by decide) ?_
            obtain ⟨y35, e36, hf⟩ := lt_elim hf
            refine lv_iinc (v := y35) (lv' := [(2, .int y35), (1, .int y33), (3, .int y4), (0, .ref (B + a0))]) cx.1 cx.2.1 dX6_feet_131 hl (k := 3) rfl (by rw [e36]; rfl) (by decide) rfl (fun ls hl => ?_)
            refine lv_goto (tgt := 4) cx.1 cx.2.1 dX6_feet_134 (by decide) ?_
            exact ih _ _ _ h0 _ _ hf _ _ _ wo (lv_sub hl [3, 1, 0] rfl)
          · rw [if_neg c28] at hf
            refine lv_iload_n cx.1 cx.2.1 dX6_feet_42 rfl (lv_at hl 0 rfl) ?_
            refine lv_goto (tgt := 54) cx.1 cx.2.1 dX6_feet_43 (by decide) ?_
            obtain ⟨g37, hf⟩ := gd_elim hf
            obtain ⟨M38, e39, hf⟩ := lt_elim hf
            refine r_iast cx wo (ruA3 h0).1 (ruA3 h0).2.1 (ruA3 h0).2.2 (by rw [(ruL3 h0)]; exact g37) dX6_feet_54 (fun H locs wo => ?_)
            rw [← e39] at wo
            obtain ⟨y40, e41, hf⟩ := lt_elim hf
            refine lv_iinc (v := y40) (lv' := [(1, .int y40), (3, .int y4), (0, .ref (B + a0)), (2, .int x2)]) cx.1 cx.2.1 dX6_feet_55 hl (k := 2) rfl (by rw [e41]; rfl) (by decide) rfl (fun ls hl => ?_)
            refine lv_goto (tgt := 131) cx.1 cx.2.1 dX6_feet_58 (by decide) ?_
            obtain ⟨y42, e43, hf⟩ := lt_elim hf
            refine lv_iinc (v := y42) (lv' := [(2, .int y42), (1, .int y40), (3, .int y4), (0, .ref (B + a0))]) cx.1 cx.2.1 dX6_feet_131 hl (k := 3) rfl (by rw [e43]; rfl) (by decide) rfl (fun ls hl => ?_)
            refine lv_goto (tgt := 4) cx.1 cx.2.1 dX6_feet_134 (by decide) ?_
            exact ih _ _ _ h0 _ _ hf _ _ _ wo (lv_sub hl [3, 1, 0] rfl)
        · rw [if_neg c27] at hf
          refine lv_iconst (v := 0) cx.1 cx.2.1 dX6_feet_31 (by decide) ?_
          have hq := Option.some.inj hf
          subst hq
          exact r_iret cx wo hr hlk dX6_feet_32
set_option maxHeartbeats 1000000 in
set_option maxRecDepth 10000 in
theorem mX6_feet (l : Launch) {G : GG} {B : Nat} {a0 : Nat} (h0 : a0 ∈ rules) {M : Mem} {q : Int32 × Mem} (hf : fX6_feet a0 M = some q) : Met l yX6_feet (wsG yX6_feet cX6_feet 4 (some .int)) (rmN (3)) (PcW Ph G B 205 M [.ref (B + a0)]) (QcI Ph G B 205 q.1 q.2) 0 0 (fr B) := by
  refine mk_Met (own := RX6) rfl rfl (Nat.le_of_ble_eq_true rfl) ?_
  intro p e s m below meth c ls cx hr hlk wo hl
  have hl : lv_has ls 4 [(0, .ref (B + a0))] := hl
  unfold fX6_feet at hf
  refine lv_iconst (v := 0) cx.1 cx.2.1 dX6_feet_0 (by decide) ?_
  refine lv_istore_n (lv' := [(1, .int 0), (0, .ref (B + a0))]) cx.1 cx.2.1 dX6_feet_1 rfl hl (by decide) rfl (fun ls hl => ?_)
  refine lv_iconst (v := 0) cx.1 cx.2.1 dX6_feet_2 (by decide) ?_
  refine lv_istore_n (lv' := [(2, .int 0), (1, .int 0), (0, .ref (B + a0))]) cx.1 cx.2.1 dX6_feet_3 rfl hl (by decide) rfl (fun ls hl => ?_)
  exact wX6_feet_4 cx hr hlk _ _ _ _ h0 _ _ hf _ _ _ wo (lv_sub hl [2, 1, 0] rfl)
end Walk
