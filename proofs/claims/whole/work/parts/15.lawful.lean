/-! walks, by program -/
theorem dBC_0 : decode cBC 0 = .ok (.iload_n 0, 1) := by decide +kernel
theorem dBC_1 : decode cBC 1 = .ok (.iload_n 0, 1) := by decide +kernel
theorem dBC_2 : decode cBC 2 = .ok (.iconst 1, 1) := by decide +kernel
theorem dBC_3 : decode cBC 3 = .ok (.iushr, 1) := by decide +kernel
theorem dBC_4 : decode cBC 4 = .ok (.ldc_w 265, 3) := by decide +kernel
theorem dBC_7 : decode cBC 7 = .ok (.iand, 1) := by decide +kernel
theorem dBC_8 : decode cBC 8 = .ok (.isub, 1) := by decide +kernel
theorem dBC_9 : decode cBC 9 = .ok (.istore_n 0, 1) := by decide +kernel
theorem dBC_10 : decode cBC 10 = .ok (.iload_n 0, 1) := by decide +kernel
theorem dBC_11 : decode cBC 11 = .ok (.ldc_w 266, 3) := by decide +kernel
theorem dBC_14 : decode cBC 14 = .ok (.iand, 1) := by decide +kernel
theorem dBC_15 : decode cBC 15 = .ok (.iload_n 0, 1) := by decide +kernel
theorem dBC_16 : decode cBC 16 = .ok (.iconst 2, 1) := by decide +kernel
theorem dBC_17 : decode cBC 17 = .ok (.iushr, 1) := by decide +kernel
theorem dBC_18 : decode cBC 18 = .ok (.ldc_w 266, 3) := by decide +kernel
theorem dBC_21 : decode cBC 21 = .ok (.iand, 1) := by decide +kernel
theorem dBC_22 : decode cBC 22 = .ok (.iadd, 1) := by decide +kernel
theorem dBC_23 : decode cBC 23 = .ok (.istore_n 0, 1) := by decide +kernel
theorem dBC_24 : decode cBC 24 = .ok (.iload_n 0, 1) := by decide +kernel
theorem dBC_25 : decode cBC 25 = .ok (.iload_n 0, 1) := by decide +kernel
theorem dBC_26 : decode cBC 26 = .ok (.iconst 4, 1) := by decide +kernel
theorem dBC_27 : decode cBC 27 = .ok (.iushr, 1) := by decide +kernel
theorem dBC_28 : decode cBC 28 = .ok (.iadd, 1) := by decide +kernel
theorem dBC_29 : decode cBC 29 = .ok (.ldc_w 267, 3) := by decide +kernel
theorem dBC_32 : decode cBC 32 = .ok (.iand, 1) := by decide +kernel
theorem dBC_33 : decode cBC 33 = .ok (.istore_n 0, 1) := by decide +kernel
theorem dBC_34 : decode cBC 34 = .ok (.iload_n 0, 1) := by decide +kernel
theorem dBC_35 : decode cBC 35 = .ok (.iload_n 0, 1) := by decide +kernel
theorem dBC_36 : decode cBC 36 = .ok (.bipush 8, 2) := by decide +kernel
theorem dBC_38 : decode cBC 38 = .ok (.iushr, 1) := by decide +kernel
theorem dBC_39 : decode cBC 39 = .ok (.iadd, 1) := by decide +kernel
theorem dBC_40 : decode cBC 40 = .ok (.istore_n 0, 1) := by decide +kernel
theorem dBC_41 : decode cBC 41 = .ok (.iload_n 0, 1) := by decide +kernel
theorem dBC_42 : decode cBC 42 = .ok (.iload_n 0, 1) := by decide +kernel
theorem dBC_43 : decode cBC 43 = .ok (.bipush 16, 2) := by decide +kernel
theorem dBC_45 : decode cBC 45 = .ok (.iushr, 1) := by decide +kernel
theorem dBC_46 : decode cBC 46 = .ok (.iadd, 1) := by decide +kernel
theorem dBC_47 : decode cBC 47 = .ok (.istore_n 0, 1) := by decide +kernel
theorem dBC_48 : decode cBC 48 = .ok (.iload_n 0, 1) := by decide +kernel
theorem dBC_49 : decode cBC 49 = .ok (.bipush 63, 2) := by decide +kernel
theorem dBC_51 : decode cBC 51 = .ok (.iand, 1) := by decide +kernel
theorem dBC_52 : decode cBC 52 = .ok (.ireturn, 1) := by decide +kernel
theorem dX1_isFull_0 : decode cX1_isFull 0 = .ok (.iload_n 1, 1) := by decide +kernel
theorem dX1_isFull_1 : decode cX1_isFull 1 = .ok (.iconst 1, 1) := by decide +kernel
theorem dX1_isFull_2 : decode cX1_isFull 2 = .ok (.iadd, 1) := by decide +kernel
theorem dX1_isFull_3 : decode cX1_isFull 3 = .ok (.istore_n 3, 1) := by decide +kernel
theorem dX1_isFull_4 : decode cX1_isFull 4 = .ok (.iload_n 3, 1) := by decide +kernel
theorem dX1_isFull_5 : decode cX1_isFull 5 = .ok (.iload_n 2, 1) := by decide +kernel
theorem dX1_isFull_6 : decode cX1_isFull 6 = .ok (.if_icmp .ge 32, 3) := by decide +kernel
theorem dX1_isFull_9 : decode cX1_isFull 9 = .ok (.aload_n 0, 1) := by decide +kernel
theorem dX1_isFull_10 : decode cX1_isFull 10 = .ok (.iload_n 3, 1) := by decide +kernel
theorem dX1_isFull_11 : decode cX1_isFull 11 = .ok (.iaload, 1) := by decide +kernel
theorem dX1_isFull_12 : decode cX1_isFull 12 = .ok (.iload_n 3, 1) := by decide +kernel
theorem dX1_isFull_13 : decode cX1_isFull 13 = .ok (.if_icmp .eq 17, 3) := by decide +kernel
theorem dX1_isFull_16 : decode cX1_isFull 16 = .ok (.aload_n 0, 1) := by decide +kernel
theorem dX1_isFull_17 : decode cX1_isFull 17 = .ok (.iload_n 3, 1) := by decide +kernel
theorem dX1_isFull_18 : decode cX1_isFull 18 = .ok (.iaload, 1) := by decide +kernel
theorem dX1_isFull_19 : decode cX1_isFull 19 = .ok (.iload_n 1, 1) := by decide +kernel
theorem dX1_isFull_20 : decode cX1_isFull 20 = .ok (.if_icmp .le 10, 3) := by decide +kernel
theorem dX1_isFull_23 : decode cX1_isFull 23 = .ok (.aload_n 0, 1) := by decide +kernel
theorem dX1_isFull_24 : decode cX1_isFull 24 = .ok (.iload_n 3, 1) := by decide +kernel
theorem dX1_isFull_25 : decode cX1_isFull 25 = .ok (.iaload, 1) := by decide +kernel
theorem dX1_isFull_26 : decode cX1_isFull 26 = .ok (.iload_n 2, 1) := by decide +kernel
theorem dX1_isFull_27 : decode cX1_isFull 27 = .ok (.if_icmp .lt 5, 3) := by decide +kernel
theorem dX1_isFull_30 : decode cX1_isFull 30 = .ok (.iconst 0, 1) := by decide +kernel
theorem dX1_isFull_31 : decode cX1_isFull 31 = .ok (.ireturn, 1) := by decide +kernel
theorem dX1_isFull_32 : decode cX1_isFull 32 = .ok (.iinc 3 1, 3) := by decide +kernel
theorem dX1_isFull_35 : decode cX1_isFull 35 = .ok (.goto (-31), 3) := by decide +kernel
theorem dX1_isFull_38 : decode cX1_isFull 38 = .ok (.iconst 1, 1) := by decide +kernel
theorem dX1_isFull_39 : decode cX1_isFull 39 = .ok (.ireturn, 1) := by decide +kernel
theorem dX1_isLawful_0 : decode cX1_isLawful 0 = .ok (.iconst 0, 1) := by decide +kernel
theorem dX1_isLawful_1 : decode cX1_isLawful 1 = .ok (.istore_n 2, 1) := by decide +kernel
theorem dX1_isLawful_2 : decode cX1_isLawful 2 = .ok (.iload_n 2, 1) := by decide +kernel
theorem dX1_isLawful_3 : decode cX1_isLawful 3 = .ok (.iload_n 1, 1) := by decide +kernel
theorem dX1_isLawful_4 : decode cX1_isLawful 4 = .ok (.if_icmp .ge 40, 3) := by decide +kernel
theorem dX1_isLawful_7 : decode cX1_isLawful 7 = .ok (.aload_n 0, 1) := by decide +kernel
theorem dX1_isLawful_8 : decode cX1_isLawful 8 = .ok (.iload_n 2, 1) := by decide +kernel
theorem dX1_isLawful_9 : decode cX1_isLawful 9 = .ok (.iaload, 1) := by decide +kernel
theorem dX1_isLawful_10 : decode cX1_isLawful 10 = .ok (.istore_n 3, 1) := by decide +kernel
theorem dX1_isLawful_11 : decode cX1_isLawful 11 = .ok (.iload_n 3, 1) := by decide +kernel
theorem dX1_isLawful_12 : decode cX1_isLawful 12 = .ok (.ifCond .lt 24, 3) := by decide +kernel
theorem dX1_isLawful_15 : decode cX1_isLawful 15 = .ok (.iload_n 3, 1) := by decide +kernel
theorem dX1_isLawful_16 : decode cX1_isLawful 16 = .ok (.iload_n 1, 1) := by decide +kernel
theorem dX1_isLawful_17 : decode cX1_isLawful 17 = .ok (.if_icmp .ge 19, 3) := by decide +kernel
theorem dX1_isLawful_20 : decode cX1_isLawful 20 = .ok (.aload_n 0, 1) := by decide +kernel
theorem dX1_isLawful_21 : decode cX1_isLawful 21 = .ok (.iload_n 3, 1) := by decide +kernel
theorem dX1_isLawful_22 : decode cX1_isLawful 22 = .ok (.iaload, 1) := by decide +kernel
theorem dX1_isLawful_23 : decode cX1_isLawful 23 = .ok (.iload_n 2, 1) := by decide +kernel
theorem dX1_isLawful_24 : decode cX1_isLawful 24 = .ok (.if_icmp .ne 12, 3) := by decide +kernel
theorem dX1_isLawful_27 : decode cX1_isLawful 27 = .ok (.aload_n 0, 1) := by decide +kernel
theorem dX1_isLawful_28 : decode cX1_isLawful 28 = .ok (.iload_n 2, 1) := by decide +kernel
theorem dX1_isLawful_29 : decode cX1_isLawful 29 = .ok (.iload_n 3, 1) := by decide +kernel
theorem dX1_isLawful_30 : decode cX1_isLawful 30 = .ok (.invokestatic 33, 3) := by decide +kernel
theorem dX1_isLawful_33 : decode cX1_isLawful 33 = .ok (.ifCond .ne 5, 3) := by decide +kernel
theorem dX1_isLawful_36 : decode cX1_isLawful 36 = .ok (.iconst 0, 1) := by decide +kernel
theorem dX1_isLawful_37 : decode cX1_isLawful 37 = .ok (.ireturn, 1) := by decide +kernel
theorem dX1_isLawful_38 : decode cX1_isLawful 38 = .ok (.iinc 2 1, 3) := by decide +kernel
theorem dX1_isLawful_41 : decode cX1_isLawful 41 = .ok (.goto (-39), 3) := by decide +kernel
theorem dX1_isLawful_44 : decode cX1_isLawful 44 = .ok (.iconst 1, 1) := by decide +kernel
theorem dX1_isLawful_45 : decode cX1_isLawful 45 = .ok (.ireturn, 1) := by decide +kernel
theorem dX1_pairsOf_0 : decode cX1_pairsOf 0 = .ok (.iconst 0, 1) := by decide +kernel
theorem dX1_pairsOf_1 : decode cX1_pairsOf 1 = .ok (.istore_n 2, 1) := by decide +kernel
theorem dX1_pairsOf_2 : decode cX1_pairsOf 2 = .ok (.iconst 0, 1) := by decide +kernel
theorem dX1_pairsOf_3 : decode cX1_pairsOf 3 = .ok (.istore_n 3, 1) := by decide +kernel
theorem dX1_pairsOf_4 : decode cX1_pairsOf 4 = .ok (.iload_n 3, 1) := by decide +kernel
theorem dX1_pairsOf_5 : decode cX1_pairsOf 5 = .ok (.iload_n 1, 1) := by decide +kernel
theorem dX1_pairsOf_6 : decode cX1_pairsOf 6 = .ok (.if_icmp .ge 24, 3) := by decide +kernel
theorem dX1_pairsOf_9 : decode cX1_pairsOf 9 = .ok (.iload_n 2, 1) := by decide +kernel
theorem dX1_pairsOf_10 : decode cX1_pairsOf 10 = .ok (.aload_n 0, 1) := by decide +kernel
theorem dX1_pairsOf_11 : decode cX1_pairsOf 11 = .ok (.iload_n 3, 1) := by decide +kernel
theorem dX1_pairsOf_12 : decode cX1_pairsOf 12 = .ok (.iaload, 1) := by decide +kernel
theorem dX1_pairsOf_13 : decode cX1_pairsOf 13 = .ok (.iload_n 3, 1) := by decide +kernel
theorem dX1_pairsOf_14 : decode cX1_pairsOf 14 = .ok (.if_icmp .le 7, 3) := by decide +kernel
theorem dX1_pairsOf_17 : decode cX1_pairsOf 17 = .ok (.iconst 1, 1) := by decide +kernel
theorem dX1_pairsOf_18 : decode cX1_pairsOf 18 = .ok (.goto 4, 3) := by decide +kernel
theorem dX1_pairsOf_21 : decode cX1_pairsOf 21 = .ok (.iconst 0, 1) := by decide +kernel
theorem dX1_pairsOf_22 : decode cX1_pairsOf 22 = .ok (.iadd, 1) := by decide +kernel
theorem dX1_pairsOf_23 : decode cX1_pairsOf 23 = .ok (.istore_n 2, 1) := by decide +kernel
theorem dX1_pairsOf_24 : decode cX1_pairsOf 24 = .ok (.iinc 3 1, 3) := by decide +kernel
theorem dX1_pairsOf_27 : decode cX1_pairsOf 27 = .ok (.goto (-23), 3) := by decide +kernel
theorem dX1_pairsOf_30 : decode cX1_pairsOf 30 = .ok (.iload_n 2, 1) := by decide +kernel
theorem dX1_pairsOf_31 : decode cX1_pairsOf 31 = .ok (.ireturn, 1) := by decide +kernel
theorem dX1_nthBit_0 : decode cX1_nthBit 0 = .ok (.iconst 0, 1) := by decide +kernel
theorem dX1_nthBit_1 : decode cX1_nthBit 1 = .ok (.istore_n 2, 1) := by decide +kernel
theorem dX1_nthBit_2 : decode cX1_nthBit 2 = .ok (.iconst 0, 1) := by decide +kernel
theorem dX1_nthBit_3 : decode cX1_nthBit 3 = .ok (.istore_n 3, 1) := by decide +kernel
theorem dX1_nthBit_4 : decode cX1_nthBit 4 = .ok (.iload_n 3, 1) := by decide +kernel
theorem dX1_nthBit_5 : decode cX1_nthBit 5 = .ok (.bipush 6, 2) := by decide +kernel
theorem dX1_nthBit_7 : decode cX1_nthBit 7 = .ok (.if_icmp .ge 27, 3) := by decide +kernel
theorem dX1_nthBit_10 : decode cX1_nthBit 10 = .ok (.iload_n 0, 1) := by decide +kernel
theorem dX1_nthBit_11 : decode cX1_nthBit 11 = .ok (.iload_n 3, 1) := by decide +kernel
theorem dX1_nthBit_12 : decode cX1_nthBit 12 = .ok (.ishr, 1) := by decide +kernel
theorem dX1_nthBit_13 : decode cX1_nthBit 13 = .ok (.iconst 1, 1) := by decide +kernel
theorem dX1_nthBit_14 : decode cX1_nthBit 14 = .ok (.iand, 1) := by decide +kernel
theorem dX1_nthBit_15 : decode cX1_nthBit 15 = .ok (.ifCond .eq 13, 3) := by decide +kernel
theorem dX1_nthBit_18 : decode cX1_nthBit 18 = .ok (.iload_n 2, 1) := by decide +kernel
theorem dX1_nthBit_19 : decode cX1_nthBit 19 = .ok (.iload_n 1, 1) := by decide +kernel
theorem dX1_nthBit_20 : decode cX1_nthBit 20 = .ok (.if_icmp .ne 5, 3) := by decide +kernel
theorem dX1_nthBit_23 : decode cX1_nthBit 23 = .ok (.iload_n 3, 1) := by decide +kernel
theorem dX1_nthBit_24 : decode cX1_nthBit 24 = .ok (.ireturn, 1) := by decide +kernel
theorem dX1_nthBit_25 : decode cX1_nthBit 25 = .ok (.iinc 2 1, 3) := by decide +kernel
theorem dX1_nthBit_28 : decode cX1_nthBit 28 = .ok (.iinc 3 1, 3) := by decide +kernel
theorem dX1_nthBit_31 : decode cX1_nthBit 31 = .ok (.goto (-27), 3) := by decide +kernel
theorem dX1_nthBit_34 : decode cX1_nthBit 34 = .ok (.iconst 0, 1) := by decide +kernel
theorem dX1_nthBit_35 : decode cX1_nthBit 35 = .ok (.ireturn, 1) := by decide +kernel
theorem dX1_unpack_0 : decode cX1_unpack 0 = .ok (.iload_n 1, 1) := by decide +kernel
theorem dX1_unpack_1 : decode cX1_unpack 1 = .ok (.istore_n 2, 1) := by decide +kernel
theorem dX1_unpack_2 : decode cX1_unpack 2 = .ok (.aload_n 0, 1) := by decide +kernel
theorem dX1_unpack_3 : decode cX1_unpack 3 = .ok (.getfield 37, 3) := by decide +kernel
theorem dX1_unpack_6 : decode cX1_unpack 6 = .ok (.istore_n 3, 1) := by decide +kernel
theorem dX1_unpack_7 : decode cX1_unpack 7 = .ok (.iconst 1, 1) := by decide +kernel
theorem dX1_unpack_8 : decode cX1_unpack 8 = .ok (.aload_n 0, 1) := by decide +kernel
theorem dX1_unpack_9 : decode cX1_unpack 9 = .ok (.getfield 9, 3) := by decide +kernel
theorem dX1_unpack_12 : decode cX1_unpack 12 = .ok (.ishl, 1) := by decide +kernel
theorem dX1_unpack_13 : decode cX1_unpack 13 = .ok (.iconst 1, 1) := by decide +kernel
theorem dX1_unpack_14 : decode cX1_unpack 14 = .ok (.isub, 1) := by decide +kernel
theorem dX1_unpack_15 : decode cX1_unpack 15 = .ok (.istore 4, 2) := by decide +kernel
theorem dX1_unpack_17 : decode cX1_unpack 17 = .ok (.iconst 0, 1) := by decide +kernel
theorem dX1_unpack_18 : decode cX1_unpack 18 = .ok (.istore 5, 2) := by decide +kernel
theorem dX1_unpack_20 : decode cX1_unpack 20 = .ok (.iload 5, 2) := by decide +kernel
theorem dX1_unpack_22 : decode cX1_unpack 22 = .ok (.aload_n 0, 1) := by decide +kernel
theorem dX1_unpack_23 : decode cX1_unpack 23 = .ok (.getfield 9, 3) := by decide +kernel
theorem dX1_unpack_26 : decode cX1_unpack 26 = .ok (.if_icmp .ge 69, 3) := by decide +kernel
theorem dX1_unpack_29 : decode cX1_unpack 29 = .ok (.iload_n 3, 1) := by decide +kernel
theorem dX1_unpack_30 : decode cX1_unpack 30 = .ok (.aload_n 0, 1) := by decide +kernel
theorem dX1_unpack_31 : decode cX1_unpack 31 = .ok (.getfield 9, 3) := by decide +kernel
theorem dX1_unpack_34 : decode cX1_unpack 34 = .ok (.iload 5, 2) := by decide +kernel
theorem dX1_unpack_36 : decode cX1_unpack 36 = .ok (.isub, 1) := by decide +kernel
theorem dX1_unpack_37 : decode cX1_unpack 37 = .ok (.idiv, 1) := by decide +kernel
theorem dX1_unpack_38 : decode cX1_unpack 38 = .ok (.istore_n 3, 1) := by decide +kernel
theorem dX1_unpack_39 : decode cX1_unpack 39 = .ok (.iload_n 3, 1) := by decide +kernel
theorem dX1_unpack_40 : decode cX1_unpack 40 = .ok (.ifCond .le 9, 3) := by decide +kernel
theorem dX1_unpack_43 : decode cX1_unpack 43 = .ok (.iload_n 2, 1) := by decide +kernel
theorem dX1_unpack_44 : decode cX1_unpack 44 = .ok (.iload_n 3, 1) := by decide +kernel
theorem dX1_unpack_45 : decode cX1_unpack 45 = .ok (.idiv, 1) := by decide +kernel
theorem dX1_unpack_46 : decode cX1_unpack 46 = .ok (.goto 4, 3) := by decide +kernel
theorem dX1_unpack_49 : decode cX1_unpack 49 = .ok (.iconst 0, 1) := by decide +kernel
theorem dX1_unpack_50 : decode cX1_unpack 50 = .ok (.istore 6, 2) := by decide +kernel
theorem dX1_unpack_52 : decode cX1_unpack 52 = .ok (.iload_n 2, 1) := by decide +kernel
theorem dX1_unpack_53 : decode cX1_unpack 53 = .ok (.iload 6, 2) := by decide +kernel
theorem dX1_unpack_55 : decode cX1_unpack 55 = .ok (.iload_n 3, 1) := by decide +kernel
theorem dX1_unpack_56 : decode cX1_unpack 56 = .ok (.imul, 1) := by decide +kernel
theorem dX1_unpack_57 : decode cX1_unpack 57 = .ok (.isub, 1) := by decide +kernel
theorem dX1_unpack_58 : decode cX1_unpack 58 = .ok (.istore_n 2, 1) := by decide +kernel
theorem dX1_unpack_59 : decode cX1_unpack 59 = .ok (.aload_n 0, 1) := by decide +kernel
theorem dX1_unpack_60 : decode cX1_unpack 60 = .ok (.getfield 27, 3) := by decide +kernel
theorem dX1_unpack_63 : decode cX1_unpack 63 = .ok (.iload 5, 2) := by decide +kernel
theorem dX1_unpack_65 : decode cX1_unpack 65 = .ok (.iload 4, 2) := by decide +kernel
theorem dX1_unpack_67 : decode cX1_unpack 67 = .ok (.iload 6, 2) := by decide +kernel
theorem dX1_unpack_69 : decode cX1_unpack 69 = .ok (.invokestatic 81, 3) := by decide +kernel
theorem dX1_unpack_72 : decode cX1_unpack 72 = .ok (.iastore, 1) := by decide +kernel
theorem dX1_unpack_73 : decode cX1_unpack 73 = .ok (.iload 4, 2) := by decide +kernel
theorem dX1_unpack_75 : decode cX1_unpack 75 = .ok (.iconst 1, 1) := by decide +kernel
theorem dX1_unpack_76 : decode cX1_unpack 76 = .ok (.aload_n 0, 1) := by decide +kernel
theorem dX1_unpack_77 : decode cX1_unpack 77 = .ok (.getfield 27, 3) := by decide +kernel
theorem dX1_unpack_80 : decode cX1_unpack 80 = .ok (.iload 5, 2) := by decide +kernel
theorem dX1_unpack_82 : decode cX1_unpack 82 = .ok (.iaload, 1) := by decide +kernel
theorem dX1_unpack_83 : decode cX1_unpack 83 = .ok (.ishl, 1) := by decide +kernel
theorem dX1_unpack_84 : decode cX1_unpack 84 = .ok (.iconst (-1), 1) := by decide +kernel
theorem dX1_unpack_85 : decode cX1_unpack 85 = .ok (.ixor, 1) := by decide +kernel
theorem dX1_unpack_86 : decode cX1_unpack 86 = .ok (.iand, 1) := by decide +kernel
theorem dX1_unpack_87 : decode cX1_unpack 87 = .ok (.istore 4, 2) := by decide +kernel
theorem dX1_unpack_89 : decode cX1_unpack 89 = .ok (.iinc 5 1, 3) := by decide +kernel
theorem dX1_unpack_92 : decode cX1_unpack 92 = .ok (.goto (-72), 3) := by decide +kernel
theorem dX1_unpack_95 : decode cX1_unpack 95 = .ok (.return_, 1) := by decide +kernel
theorem dX1_findSets_0 : decode cX1_findSets 0 = .ok (.aload_n 0, 1) := by decide +kernel
theorem dX1_findSets_1 : decode cX1_findSets 1 = .ok (.iconst 0, 1) := by decide +kernel
theorem dX1_findSets_2 : decode cX1_findSets 2 = .ok (.putfield 46, 3) := by decide +kernel
theorem dX1_findSets_5 : decode cX1_findSets 5 = .ok (.aload_n 0, 1) := by decide +kernel
theorem dX1_findSets_6 : decode cX1_findSets 6 = .ok (.iconst 0, 1) := by decide +kernel
theorem dX1_findSets_7 : decode cX1_findSets 7 = .ok (.putfield 49, 3) := by decide +kernel
theorem dX1_findSets_10 : decode cX1_findSets 10 = .ok (.aload_n 0, 1) := by decide +kernel
theorem dX1_findSets_11 : decode cX1_findSets 11 = .ok (.iconst 0, 1) := by decide +kernel
theorem dX1_findSets_12 : decode cX1_findSets 12 = .ok (.putfield 52, 3) := by decide +kernel
theorem dX1_findSets_15 : decode cX1_findSets 15 = .ok (.iconst 0, 1) := by decide +kernel
theorem dX1_findSets_16 : decode cX1_findSets 16 = .ok (.istore_n 1, 1) := by decide +kernel
theorem dX1_findSets_17 : decode cX1_findSets 17 = .ok (.iload_n 1, 1) := by decide +kernel
theorem dX1_findSets_18 : decode cX1_findSets 18 = .ok (.aload_n 0, 1) := by decide +kernel
theorem dX1_findSets_19 : decode cX1_findSets 19 = .ok (.getfield 37, 3) := by decide +kernel
theorem dX1_findSets_22 : decode cX1_findSets 22 = .ok (.if_icmp .ge 141, 3) := by decide +kernel
theorem dX1_findSets_25 : decode cX1_findSets 25 = .ok (.aload_n 0, 1) := by decide +kernel
theorem dX1_findSets_26 : decode cX1_findSets 26 = .ok (.iload_n 1, 1) := by decide +kernel
theorem dX1_findSets_27 : decode cX1_findSets 27 = .ok (.invokevirtual 55, 3) := by decide +kernel
theorem dX1_findSets_30 : decode cX1_findSets 30 = .ok (.aload_n 0, 1) := by decide +kernel
theorem dX1_findSets_31 : decode cX1_findSets 31 = .ok (.getfield 46, 3) := by decide +kernel
theorem dX1_findSets_34 : decode cX1_findSets 34 = .ok (.bipush 20, 2) := by decide +kernel
theorem dX1_findSets_36 : decode cX1_findSets 36 = .ok (.if_icmp .ge 121, 3) := by decide +kernel
theorem dX1_findSets_39 : decode cX1_findSets 39 = .ok (.aload_n 0, 1) := by decide +kernel
theorem dX1_findSets_40 : decode cX1_findSets 40 = .ok (.getfield 27, 3) := by decide +kernel
theorem dX1_findSets_43 : decode cX1_findSets 43 = .ok (.aload_n 0, 1) := by decide +kernel
theorem dX1_findSets_44 : decode cX1_findSets 44 = .ok (.getfield 9, 3) := by decide +kernel
theorem dX1_findSets_47 : decode cX1_findSets 47 = .ok (.invokestatic 59, 3) := by decide +kernel
theorem dX1_findSets_50 : decode cX1_findSets 50 = .ok (.ifCond .eq 107, 3) := by decide +kernel
theorem dX1_findSets_53 : decode cX1_findSets 53 = .ok (.iconst 0, 1) := by decide +kernel
theorem dX1_findSets_54 : decode cX1_findSets 54 = .ok (.istore_n 2, 1) := by decide +kernel
theorem dX1_findSets_55 : decode cX1_findSets 55 = .ok (.iload_n 2, 1) := by decide +kernel
theorem dX1_findSets_56 : decode cX1_findSets 56 = .ok (.aload_n 0, 1) := by decide +kernel
theorem dX1_findSets_57 : decode cX1_findSets 57 = .ok (.getfield 9, 3) := by decide +kernel
theorem dX1_findSets_60 : decode cX1_findSets 60 = .ok (.if_icmp .ge 26, 3) := by decide +kernel
theorem dX1_findSets_63 : decode cX1_findSets 63 = .ok (.aload_n 0, 1) := by decide +kernel
theorem dX1_findSets_64 : decode cX1_findSets 64 = .ok (.getfield 17, 3) := by decide +kernel
theorem dX1_findSets_67 : decode cX1_findSets 67 = .ok (.aload_n 0, 1) := by decide +kernel
theorem dX1_findSets_68 : decode cX1_findSets 68 = .ok (.getfield 46, 3) := by decide +kernel
theorem dX1_findSets_71 : decode cX1_findSets 71 = .ok (.aaload, 1) := by decide +kernel
theorem dX1_findSets_72 : decode cX1_findSets 72 = .ok (.iload_n 2, 1) := by decide +kernel
theorem dX1_findSets_73 : decode cX1_findSets 73 = .ok (.aload_n 0, 1) := by decide +kernel
theorem dX1_findSets_74 : decode cX1_findSets 74 = .ok (.getfield 27, 3) := by decide +kernel
theorem dX1_findSets_77 : decode cX1_findSets 77 = .ok (.iload_n 2, 1) := by decide +kernel
theorem dX1_findSets_78 : decode cX1_findSets 78 = .ok (.iaload, 1) := by decide +kernel
theorem dX1_findSets_79 : decode cX1_findSets 79 = .ok (.iastore, 1) := by decide +kernel
theorem dX1_findSets_80 : decode cX1_findSets 80 = .ok (.iinc 2 1, 3) := by decide +kernel
theorem dX1_findSets_83 : decode cX1_findSets 83 = .ok (.goto (-28), 3) := by decide +kernel
theorem dX1_findSets_86 : decode cX1_findSets 86 = .ok (.aload_n 0, 1) := by decide +kernel
theorem dX1_findSets_87 : decode cX1_findSets 87 = .ok (.dup, 1) := by decide +kernel
theorem dX1_findSets_88 : decode cX1_findSets 88 = .ok (.getfield 46, 3) := by decide +kernel
theorem dX1_findSets_91 : decode cX1_findSets 91 = .ok (.iconst 1, 1) := by decide +kernel
theorem dX1_findSets_92 : decode cX1_findSets 92 = .ok (.iadd, 1) := by decide +kernel
theorem dX1_findSets_93 : decode cX1_findSets 93 = .ok (.putfield 46, 3) := by decide +kernel
theorem dX1_findSets_96 : decode cX1_findSets 96 = .ok (.aload_n 0, 1) := by decide +kernel
theorem dX1_findSets_97 : decode cX1_findSets 97 = .ok (.getfield 27, 3) := by decide +kernel
theorem dX1_findSets_100 : decode cX1_findSets 100 = .ok (.aload_n 0, 1) := by decide +kernel
theorem dX1_findSets_101 : decode cX1_findSets 101 = .ok (.getfield 9, 3) := by decide +kernel
theorem dX1_findSets_104 : decode cX1_findSets 104 = .ok (.invokestatic 63, 3) := by decide +kernel
theorem dX1_findSets_107 : decode cX1_findSets 107 = .ok (.istore_n 2, 1) := by decide +kernel
theorem dX1_findSets_108 : decode cX1_findSets 108 = .ok (.aload_n 0, 1) := by decide +kernel
theorem dX1_findSets_109 : decode cX1_findSets 109 = .ok (.iload_n 2, 1) := by decide +kernel
theorem dX1_findSets_110 : decode cX1_findSets 110 = .ok (.aload_n 0, 1) := by decide +kernel
theorem dX1_findSets_111 : decode cX1_findSets 111 = .ok (.getfield 49, 3) := by decide +kernel
theorem dX1_findSets_114 : decode cX1_findSets 114 = .ok (.if_icmp .le 7, 3) := by decide +kernel
theorem dX1_findSets_117 : decode cX1_findSets 117 = .ok (.iconst 1, 1) := by decide +kernel
theorem dX1_findSets_118 : decode cX1_findSets 118 = .ok (.goto 24, 3) := by decide +kernel
theorem dX1_findSets_121 : decode cX1_findSets 121 = .ok (.iload_n 2, 1) := by decide +kernel
theorem dX1_findSets_122 : decode cX1_findSets 122 = .ok (.aload_n 0, 1) := by decide +kernel
theorem dX1_findSets_123 : decode cX1_findSets 123 = .ok (.getfield 49, 3) := by decide +kernel
theorem dX1_findSets_126 : decode cX1_findSets 126 = .ok (.if_icmp .ne 12, 3) := by decide +kernel
theorem dX1_findSets_129 : decode cX1_findSets 129 = .ok (.aload_n 0, 1) := by decide +kernel
theorem dX1_findSets_130 : decode cX1_findSets 130 = .ok (.getfield 52, 3) := by decide +kernel
theorem dX1_findSets_133 : decode cX1_findSets 133 = .ok (.iconst 1, 1) := by decide +kernel
theorem dX1_findSets_134 : decode cX1_findSets 134 = .ok (.iadd, 1) := by decide +kernel
theorem dX1_findSets_135 : decode cX1_findSets 135 = .ok (.goto 7, 3) := by decide +kernel
theorem dX1_findSets_138 : decode cX1_findSets 138 = .ok (.aload_n 0, 1) := by decide +kernel
theorem dX1_findSets_139 : decode cX1_findSets 139 = .ok (.getfield 52, 3) := by decide +kernel
theorem dX1_findSets_142 : decode cX1_findSets 142 = .ok (.putfield 52, 3) := by decide +kernel
theorem dX1_findSets_145 : decode cX1_findSets 145 = .ok (.aload_n 0, 1) := by decide +kernel
theorem dX1_findSets_146 : decode cX1_findSets 146 = .ok (.aload_n 0, 1) := by decide +kernel
theorem dX1_findSets_147 : decode cX1_findSets 147 = .ok (.getfield 49, 3) := by decide +kernel
theorem dX1_findSets_150 : decode cX1_findSets 150 = .ok (.iload_n 2, 1) := by decide +kernel
theorem dX1_findSets_151 : decode cX1_findSets 151 = .ok (.invokestatic 67, 3) := by decide +kernel
theorem dX1_findSets_154 : decode cX1_findSets 154 = .ok (.putfield 49, 3) := by decide +kernel
theorem dX1_findSets_157 : decode cX1_findSets 157 = .ok (.iinc 1 1, 3) := by decide +kernel
theorem dX1_findSets_160 : decode cX1_findSets 160 = .ok (.goto (-143), 3) := by decide +kernel
theorem dX1_findSets_163 : decode cX1_findSets 163 = .ok (.return_, 1) := by decide +kernel
theorem dX1_numberOf_0 : decode cX1_numberOf 0 = .ok (.iconst 0, 1) := by decide +kernel
theorem dX1_numberOf_1 : decode cX1_numberOf 1 = .ok (.istore_n 2, 1) := by decide +kernel
theorem dX1_numberOf_2 : decode cX1_numberOf 2 = .ok (.iconst 1, 1) := by decide +kernel
theorem dX1_numberOf_3 : decode cX1_numberOf 3 = .ok (.aload_n 0, 1) := by decide +kernel
theorem dX1_numberOf_4 : decode cX1_numberOf 4 = .ok (.getfield 9, 3) := by decide +kernel
theorem dX1_numberOf_7 : decode cX1_numberOf 7 = .ok (.ishl, 1) := by decide +kernel
theorem dX1_numberOf_8 : decode cX1_numberOf 8 = .ok (.iconst 1, 1) := by decide +kernel
theorem dX1_numberOf_9 : decode cX1_numberOf 9 = .ok (.isub, 1) := by decide +kernel
theorem dX1_numberOf_10 : decode cX1_numberOf 10 = .ok (.istore_n 3, 1) := by decide +kernel
theorem dX1_numberOf_11 : decode cX1_numberOf 11 = .ok (.iconst 0, 1) := by decide +kernel
theorem dX1_numberOf_12 : decode cX1_numberOf 12 = .ok (.istore 4, 2) := by decide +kernel
theorem dX1_numberOf_14 : decode cX1_numberOf 14 = .ok (.iload 4, 2) := by decide +kernel
theorem dX1_numberOf_16 : decode cX1_numberOf 16 = .ok (.aload_n 0, 1) := by decide +kernel
theorem dX1_numberOf_17 : decode cX1_numberOf 17 = .ok (.getfield 9, 3) := by decide +kernel
theorem dX1_numberOf_20 : decode cX1_numberOf 20 = .ok (.if_icmp .ge 51, 3) := by decide +kernel
theorem dX1_numberOf_23 : decode cX1_numberOf 23 = .ok (.iload 4, 2) := by decide +kernel
theorem dX1_numberOf_25 : decode cX1_numberOf 25 = .ok (.aload_n 1, 1) := by decide +kernel
theorem dX1_numberOf_26 : decode cX1_numberOf 26 = .ok (.arraylength, 1) := by decide +kernel
theorem dX1_numberOf_27 : decode cX1_numberOf 27 = .ok (.if_icmp .ge 44, 3) := by decide +kernel
theorem dX1_numberOf_30 : decode cX1_numberOf 30 = .ok (.iconst 1, 1) := by decide +kernel
theorem dX1_numberOf_31 : decode cX1_numberOf 31 = .ok (.aload_n 1, 1) := by decide +kernel
theorem dX1_numberOf_32 : decode cX1_numberOf 32 = .ok (.iload 4, 2) := by decide +kernel
theorem dX1_numberOf_34 : decode cX1_numberOf 34 = .ok (.iaload, 1) := by decide +kernel
theorem dX1_numberOf_35 : decode cX1_numberOf 35 = .ok (.ishl, 1) := by decide +kernel
theorem dX1_numberOf_36 : decode cX1_numberOf 36 = .ok (.istore 5, 2) := by decide +kernel
theorem dX1_numberOf_38 : decode cX1_numberOf 38 = .ok (.iload_n 2, 1) := by decide +kernel
theorem dX1_numberOf_39 : decode cX1_numberOf 39 = .ok (.aload_n 0, 1) := by decide +kernel
theorem dX1_numberOf_40 : decode cX1_numberOf 40 = .ok (.getfield 9, 3) := by decide +kernel
theorem dX1_numberOf_43 : decode cX1_numberOf 43 = .ok (.iload 4, 2) := by decide +kernel
theorem dX1_numberOf_45 : decode cX1_numberOf 45 = .ok (.isub, 1) := by decide +kernel
theorem dX1_numberOf_46 : decode cX1_numberOf 46 = .ok (.imul, 1) := by decide +kernel
theorem dX1_numberOf_47 : decode cX1_numberOf 47 = .ok (.iload_n 3, 1) := by decide +kernel
theorem dX1_numberOf_48 : decode cX1_numberOf 48 = .ok (.iload 5, 2) := by decide +kernel
theorem dX1_numberOf_50 : decode cX1_numberOf 50 = .ok (.iconst 1, 1) := by decide +kernel
theorem dX1_numberOf_51 : decode cX1_numberOf 51 = .ok (.isub, 1) := by decide +kernel
theorem dX1_numberOf_52 : decode cX1_numberOf 52 = .ok (.iand, 1) := by decide +kernel
theorem dX1_numberOf_53 : decode cX1_numberOf 53 = .ok (.invokestatic 84, 3) := by decide +kernel
theorem dX1_numberOf_56 : decode cX1_numberOf 56 = .ok (.iadd, 1) := by decide +kernel
theorem dX1_numberOf_57 : decode cX1_numberOf 57 = .ok (.istore_n 2, 1) := by decide +kernel
theorem dX1_numberOf_58 : decode cX1_numberOf 58 = .ok (.iload_n 3, 1) := by decide +kernel
theorem dX1_numberOf_59 : decode cX1_numberOf 59 = .ok (.iload 5, 2) := by decide +kernel
theorem dX1_numberOf_61 : decode cX1_numberOf 61 = .ok (.iconst (-1), 1) := by decide +kernel
theorem dX1_numberOf_62 : decode cX1_numberOf 62 = .ok (.ixor, 1) := by decide +kernel
theorem dX1_numberOf_63 : decode cX1_numberOf 63 = .ok (.iand, 1) := by decide +kernel
theorem dX1_numberOf_64 : decode cX1_numberOf 64 = .ok (.istore_n 3, 1) := by decide +kernel
theorem dX1_numberOf_65 : decode cX1_numberOf 65 = .ok (.iinc 4 1, 3) := by decide +kernel
theorem dX1_numberOf_68 : decode cX1_numberOf 68 = .ok (.goto (-54), 3) := by decide +kernel
theorem dX1_numberOf_71 : decode cX1_numberOf 71 = .ok (.iload_n 2, 1) := by decide +kernel
theorem dX1_numberOf_72 : decode cX1_numberOf 72 = .ok (.ifCond .lt 15, 3) := by decide +kernel
theorem dX1_numberOf_75 : decode cX1_numberOf 75 = .ok (.iload_n 2, 1) := by decide +kernel
theorem dX1_numberOf_76 : decode cX1_numberOf 76 = .ok (.aload_n 0, 1) := by decide +kernel
theorem dX1_numberOf_77 : decode cX1_numberOf 77 = .ok (.getfield 37, 3) := by decide +kernel
theorem dX1_numberOf_80 : decode cX1_numberOf 80 = .ok (.if_icmp .ge 7, 3) := by decide +kernel
theorem dX1_numberOf_83 : decode cX1_numberOf 83 = .ok (.iload_n 2, 1) := by decide +kernel
theorem dX1_numberOf_84 : decode cX1_numberOf 84 = .ok (.goto 4, 3) := by decide +kernel
theorem dX1_numberOf_87 : decode cX1_numberOf 87 = .ok (.iconst 0, 1) := by decide +kernel
theorem dX1_numberOf_88 : decode cX1_numberOf 88 = .ok (.ireturn, 1) := by decide +kernel
theorem dX1_spreadFrom_0 : decode cX1_spreadFrom 0 = .ok (.iconst 0, 1) := by decide +kernel
theorem dX1_spreadFrom_1 : decode cX1_spreadFrom 1 = .ok (.istore_n 2, 1) := by decide +kernel
theorem dX1_spreadFrom_2 : decode cX1_spreadFrom 2 = .ok (.iconst 0, 1) := by decide +kernel
theorem dX1_spreadFrom_3 : decode cX1_spreadFrom 3 = .ok (.istore_n 3, 1) := by decide +kernel
theorem dX1_spreadFrom_4 : decode cX1_spreadFrom 4 = .ok (.iload_n 3, 1) := by decide +kernel
theorem dX1_spreadFrom_5 : decode cX1_spreadFrom 5 = .ok (.aload_n 0, 1) := by decide +kernel
theorem dX1_spreadFrom_6 : decode cX1_spreadFrom 6 = .ok (.getfield 46, 3) := by decide +kernel
theorem dX1_spreadFrom_9 : decode cX1_spreadFrom 9 = .ok (.if_icmp .ge 81, 3) := by decide +kernel
theorem dX1_spreadFrom_12 : decode cX1_spreadFrom 12 = .ok (.iconst 0, 1) := by decide +kernel
theorem dX1_spreadFrom_13 : decode cX1_spreadFrom 13 = .ok (.istore 4, 2) := by decide +kernel
theorem dX1_spreadFrom_15 : decode cX1_spreadFrom 15 = .ok (.iload 4, 2) := by decide +kernel
theorem dX1_spreadFrom_17 : decode cX1_spreadFrom 17 = .ok (.aload_n 0, 1) := by decide +kernel
theorem dX1_spreadFrom_18 : decode cX1_spreadFrom 18 = .ok (.getfield 9, 3) := by decide +kernel
theorem dX1_spreadFrom_21 : decode cX1_spreadFrom 21 = .ok (.if_icmp .ge 30, 3) := by decide +kernel
theorem dX1_spreadFrom_24 : decode cX1_spreadFrom 24 = .ok (.aload_n 0, 1) := by decide +kernel
theorem dX1_spreadFrom_25 : decode cX1_spreadFrom 25 = .ok (.getfield 30, 3) := by decide +kernel
theorem dX1_spreadFrom_28 : decode cX1_spreadFrom 28 = .ok (.iload 4, 2) := by decide +kernel
theorem dX1_spreadFrom_30 : decode cX1_spreadFrom 30 = .ok (.aload_n 0, 1) := by decide +kernel
theorem dX1_spreadFrom_31 : decode cX1_spreadFrom 31 = .ok (.getfield 27, 3) := by decide +kernel
theorem dX1_spreadFrom_34 : decode cX1_spreadFrom 34 = .ok (.aload_n 0, 1) := by decide +kernel
theorem dX1_spreadFrom_35 : decode cX1_spreadFrom 35 = .ok (.getfield 17, 3) := by decide +kernel
theorem dX1_spreadFrom_38 : decode cX1_spreadFrom 38 = .ok (.iload_n 3, 1) := by decide +kernel
theorem dX1_spreadFrom_39 : decode cX1_spreadFrom 39 = .ok (.aaload, 1) := by decide +kernel
theorem dX1_spreadFrom_40 : decode cX1_spreadFrom 40 = .ok (.iload 4, 2) := by decide +kernel
theorem dX1_spreadFrom_42 : decode cX1_spreadFrom 42 = .ok (.iaload, 1) := by decide +kernel
theorem dX1_spreadFrom_43 : decode cX1_spreadFrom 43 = .ok (.iaload, 1) := by decide +kernel
theorem dX1_spreadFrom_44 : decode cX1_spreadFrom 44 = .ok (.iastore, 1) := by decide +kernel
theorem dX1_spreadFrom_45 : decode cX1_spreadFrom 45 = .ok (.iinc 4 1, 3) := by decide +kernel
theorem dX1_spreadFrom_48 : decode cX1_spreadFrom 48 = .ok (.goto (-33), 3) := by decide +kernel
theorem dX1_spreadFrom_51 : decode cX1_spreadFrom 51 = .ok (.aload_n 0, 1) := by decide +kernel
theorem dX1_spreadFrom_52 : decode cX1_spreadFrom 52 = .ok (.aload_n 0, 1) := by decide +kernel
theorem dX1_spreadFrom_53 : decode cX1_spreadFrom 53 = .ok (.getfield 30, 3) := by decide +kernel
theorem dX1_spreadFrom_56 : decode cX1_spreadFrom 56 = .ok (.invokevirtual 77, 3) := by decide +kernel
theorem dX1_spreadFrom_59 : decode cX1_spreadFrom 59 = .ok (.istore 4, 2) := by decide +kernel
theorem dX1_spreadFrom_61 : decode cX1_spreadFrom 61 = .ok (.aload_n 0, 1) := by decide +kernel
theorem dX1_spreadFrom_62 : decode cX1_spreadFrom 62 = .ok (.getfield 20, 3) := by decide +kernel
theorem dX1_spreadFrom_65 : decode cX1_spreadFrom 65 = .ok (.iload 4, 2) := by decide +kernel
theorem dX1_spreadFrom_67 : decode cX1_spreadFrom 67 = .ok (.iaload, 1) := by decide +kernel
theorem dX1_spreadFrom_68 : decode cX1_spreadFrom 68 = .ok (.ifCond .ge 16, 3) := by decide +kernel
theorem dX1_spreadFrom_71 : decode cX1_spreadFrom 71 = .ok (.aload_n 0, 1) := by decide +kernel
theorem dX1_spreadFrom_72 : decode cX1_spreadFrom 72 = .ok (.getfield 20, 3) := by decide +kernel
theorem dX1_spreadFrom_75 : decode cX1_spreadFrom 75 = .ok (.iload 4, 2) := by decide +kernel
theorem dX1_spreadFrom_77 : decode cX1_spreadFrom 77 = .ok (.iload_n 1, 1) := by decide +kernel
theorem dX1_spreadFrom_78 : decode cX1_spreadFrom 78 = .ok (.iconst 1, 1) := by decide +kernel
theorem dX1_spreadFrom_79 : decode cX1_spreadFrom 79 = .ok (.iadd, 1) := by decide +kernel
theorem dX1_spreadFrom_80 : decode cX1_spreadFrom 80 = .ok (.iastore, 1) := by decide +kernel
theorem dX1_spreadFrom_81 : decode cX1_spreadFrom 81 = .ok (.iinc 2 1, 3) := by decide +kernel
theorem dX1_spreadFrom_84 : decode cX1_spreadFrom 84 = .ok (.iinc 3 1, 3) := by decide +kernel
theorem dX1_spreadFrom_87 : decode cX1_spreadFrom 87 = .ok (.goto (-83), 3) := by decide +kernel
theorem dX1_spreadFrom_90 : decode cX1_spreadFrom 90 = .ok (.iload_n 2, 1) := by decide +kernel
theorem dX1_spreadFrom_91 : decode cX1_spreadFrom 91 = .ok (.ireturn, 1) := by decide +kernel
theorem dX1_findDays_0 : decode cX1_findDays 0 = .ok (.iconst 0, 1) := by decide +kernel
theorem dX1_findDays_1 : decode cX1_findDays 1 = .ok (.istore_n 1, 1) := by decide +kernel
theorem dX1_findDays_2 : decode cX1_findDays 2 = .ok (.iload_n 1, 1) := by decide +kernel
theorem dX1_findDays_3 : decode cX1_findDays 3 = .ok (.aload_n 0, 1) := by decide +kernel
theorem dX1_findDays_4 : decode cX1_findDays 4 = .ok (.getfield 37, 3) := by decide +kernel
theorem dX1_findDays_7 : decode cX1_findDays 7 = .ok (.if_icmp .ge 16, 3) := by decide +kernel
theorem dX1_findDays_10 : decode cX1_findDays 10 = .ok (.aload_n 0, 1) := by decide +kernel
theorem dX1_findDays_11 : decode cX1_findDays 11 = .ok (.getfield 20, 3) := by decide +kernel
theorem dX1_findDays_14 : decode cX1_findDays 14 = .ok (.iload_n 1, 1) := by decide +kernel
theorem dX1_findDays_15 : decode cX1_findDays 15 = .ok (.iconst (-1), 1) := by decide +kernel
theorem dX1_findDays_16 : decode cX1_findDays 16 = .ok (.iastore, 1) := by decide +kernel
theorem dX1_findDays_17 : decode cX1_findDays 17 = .ok (.iinc 1 1, 3) := by decide +kernel
theorem dX1_findDays_20 : decode cX1_findDays 20 = .ok (.goto (-18), 3) := by decide +kernel
theorem dX1_findDays_23 : decode cX1_findDays 23 = .ok (.aload_n 0, 1) := by decide +kernel
theorem dX1_findDays_24 : decode cX1_findDays 24 = .ok (.getfield 20, 3) := by decide +kernel
theorem dX1_findDays_27 : decode cX1_findDays 27 = .ok (.iconst 0, 1) := by decide +kernel
theorem dX1_findDays_28 : decode cX1_findDays 28 = .ok (.iconst 0, 1) := by decide +kernel
theorem dX1_findDays_29 : decode cX1_findDays 29 = .ok (.iastore, 1) := by decide +kernel
theorem dX1_findDays_30 : decode cX1_findDays 30 = .ok (.iconst 1, 1) := by decide +kernel
theorem dX1_findDays_31 : decode cX1_findDays 31 = .ok (.istore_n 1, 1) := by decide +kernel
theorem dX1_findDays_32 : decode cX1_findDays 32 = .ok (.iconst 0, 1) := by decide +kernel
theorem dX1_findDays_33 : decode cX1_findDays 33 = .ok (.istore_n 2, 1) := by decide +kernel
theorem dX1_findDays_34 : decode cX1_findDays 34 = .ok (.iload_n 2, 1) := by decide +kernel
theorem dX1_findDays_35 : decode cX1_findDays 35 = .ok (.bipush 6, 2) := by decide +kernel
theorem dX1_findDays_37 : decode cX1_findDays 37 = .ok (.if_icmp .ge 56, 3) := by decide +kernel
theorem dX1_findDays_40 : decode cX1_findDays 40 = .ok (.iload_n 1, 1) := by decide +kernel
theorem dX1_findDays_41 : decode cX1_findDays 41 = .ok (.aload_n 0, 1) := by decide +kernel
theorem dX1_findDays_42 : decode cX1_findDays 42 = .ok (.getfield 37, 3) := by decide +kernel
theorem dX1_findDays_45 : decode cX1_findDays 45 = .ok (.if_icmp .ge 48, 3) := by decide +kernel
theorem dX1_findDays_48 : decode cX1_findDays 48 = .ok (.iconst 0, 1) := by decide +kernel
theorem dX1_findDays_49 : decode cX1_findDays 49 = .ok (.istore_n 3, 1) := by decide +kernel
theorem dX1_findDays_50 : decode cX1_findDays 50 = .ok (.iload_n 3, 1) := by decide +kernel
theorem dX1_findDays_51 : decode cX1_findDays 51 = .ok (.aload_n 0, 1) := by decide +kernel
theorem dX1_findDays_52 : decode cX1_findDays 52 = .ok (.getfield 37, 3) := by decide +kernel
theorem dX1_findDays_55 : decode cX1_findDays 55 = .ok (.if_icmp .ge 32, 3) := by decide +kernel
theorem dX1_findDays_58 : decode cX1_findDays 58 = .ok (.aload_n 0, 1) := by decide +kernel
theorem dX1_findDays_59 : decode cX1_findDays 59 = .ok (.getfield 20, 3) := by decide +kernel
theorem dX1_findDays_62 : decode cX1_findDays 62 = .ok (.iload_n 3, 1) := by decide +kernel
theorem dX1_findDays_63 : decode cX1_findDays 63 = .ok (.iaload, 1) := by decide +kernel
theorem dX1_findDays_64 : decode cX1_findDays 64 = .ok (.iload_n 2, 1) := by decide +kernel
theorem dX1_findDays_65 : decode cX1_findDays 65 = .ok (.if_icmp .ne 16, 3) := by decide +kernel
theorem dX1_findDays_68 : decode cX1_findDays 68 = .ok (.aload_n 0, 1) := by decide +kernel
theorem dX1_findDays_69 : decode cX1_findDays 69 = .ok (.iload_n 3, 1) := by decide +kernel
theorem dX1_findDays_70 : decode cX1_findDays 70 = .ok (.invokevirtual 55, 3) := by decide +kernel
theorem dX1_findDays_73 : decode cX1_findDays 73 = .ok (.iload_n 1, 1) := by decide +kernel
theorem dX1_findDays_74 : decode cX1_findDays 74 = .ok (.aload_n 0, 1) := by decide +kernel
theorem dX1_findDays_75 : decode cX1_findDays 75 = .ok (.iload_n 2, 1) := by decide +kernel
theorem dX1_findDays_76 : decode cX1_findDays 76 = .ok (.invokevirtual 73, 3) := by decide +kernel
theorem dX1_findDays_79 : decode cX1_findDays 79 = .ok (.iadd, 1) := by decide +kernel
theorem dX1_findDays_80 : decode cX1_findDays 80 = .ok (.istore_n 1, 1) := by decide +kernel
theorem dX1_findDays_81 : decode cX1_findDays 81 = .ok (.iinc 3 1, 3) := by decide +kernel
theorem dX1_findDays_84 : decode cX1_findDays 84 = .ok (.goto (-34), 3) := by decide +kernel
theorem dX1_findDays_87 : decode cX1_findDays 87 = .ok (.iinc 2 1, 3) := by decide +kernel
theorem dX1_findDays_90 : decode cX1_findDays 90 = .ok (.goto (-56), 3) := by decide +kernel
theorem dX1_findDays_93 : decode cX1_findDays 93 = .ok (.return_, 1) := by decide +kernel
theorem dX1_prepare_0 : decode cX1_prepare 0 = .ok (.iload_n 1, 1) := by decide +kernel
theorem dX1_prepare_1 : decode cX1_prepare 1 = .ok (.aload_n 0, 1) := by decide +kernel
theorem dX1_prepare_2 : decode cX1_prepare 2 = .ok (.getfield 9, 3) := by decide +kernel
theorem dX1_prepare_5 : decode cX1_prepare 5 = .ok (.if_icmp .eq 13, 3) := by decide +kernel
theorem dX1_prepare_8 : decode cX1_prepare 8 = .ok (.iload_n 1, 1) := by decide +kernel
theorem dX1_prepare_9 : decode cX1_prepare 9 = .ok (.ifCond .lt 9, 3) := by decide +kernel
theorem dX1_prepare_12 : decode cX1_prepare 12 = .ok (.iload_n 1, 1) := by decide +kernel
theorem dX1_prepare_13 : decode cX1_prepare 13 = .ok (.bipush 6, 2) := by decide +kernel
theorem dX1_prepare_15 : decode cX1_prepare 15 = .ok (.if_icmp .le 4, 3) := by decide +kernel
theorem dX1_prepare_18 : decode cX1_prepare 18 = .ok (.return_, 1) := by decide +kernel
theorem dX1_prepare_19 : decode cX1_prepare 19 = .ok (.aload_n 0, 1) := by decide +kernel
theorem dX1_prepare_20 : decode cX1_prepare 20 = .ok (.iload_n 1, 1) := by decide +kernel
theorem dX1_prepare_21 : decode cX1_prepare 21 = .ok (.putfield 9, 3) := by decide +kernel
theorem dX1_prepare_24 : decode cX1_prepare 24 = .ok (.aload_n 0, 1) := by decide +kernel
theorem dX1_prepare_25 : decode cX1_prepare 25 = .ok (.iconst 1, 1) := by decide +kernel
theorem dX1_prepare_26 : decode cX1_prepare 26 = .ok (.putfield 37, 3) := by decide +kernel
theorem dX1_prepare_29 : decode cX1_prepare 29 = .ok (.iconst 2, 1) := by decide +kernel
theorem dX1_prepare_30 : decode cX1_prepare 30 = .ok (.istore_n 2, 1) := by decide +kernel
theorem dX1_prepare_31 : decode cX1_prepare 31 = .ok (.iload_n 2, 1) := by decide +kernel
theorem dX1_prepare_32 : decode cX1_prepare 32 = .ok (.iload_n 1, 1) := by decide +kernel
theorem dX1_prepare_33 : decode cX1_prepare 33 = .ok (.if_icmp .gt 19, 3) := by decide +kernel
theorem dX1_prepare_36 : decode cX1_prepare 36 = .ok (.aload_n 0, 1) := by decide +kernel
theorem dX1_prepare_37 : decode cX1_prepare 37 = .ok (.dup, 1) := by decide +kernel
theorem dX1_prepare_38 : decode cX1_prepare 38 = .ok (.getfield 37, 3) := by decide +kernel
theorem dX1_prepare_41 : decode cX1_prepare 41 = .ok (.iload_n 2, 1) := by decide +kernel
theorem dX1_prepare_42 : decode cX1_prepare 42 = .ok (.imul, 1) := by decide +kernel
theorem dX1_prepare_43 : decode cX1_prepare 43 = .ok (.putfield 37, 3) := by decide +kernel
theorem dX1_prepare_46 : decode cX1_prepare 46 = .ok (.iinc 2 1, 3) := by decide +kernel
theorem dX1_prepare_49 : decode cX1_prepare 49 = .ok (.goto (-18), 3) := by decide +kernel
theorem dX1_prepare_52 : decode cX1_prepare 52 = .ok (.aload_n 0, 1) := by decide +kernel
theorem dX1_prepare_53 : decode cX1_prepare 53 = .ok (.invokevirtual 40, 3) := by decide +kernel
theorem dX1_prepare_56 : decode cX1_prepare 56 = .ok (.aload_n 0, 1) := by decide +kernel
theorem dX1_prepare_57 : decode cX1_prepare 57 = .ok (.invokevirtual 43, 3) := by decide +kernel
theorem dX1_prepare_60 : decode cX1_prepare 60 = .ok (.return_, 1) := by decide +kernel
theorem dX1_daysFor_0 : decode cX1_daysFor 0 = .ok (.aload_n 0, 1) := by decide +kernel
theorem dX1_daysFor_1 : decode cX1_daysFor 1 = .ok (.getfield 20, 3) := by decide +kernel
theorem dX1_daysFor_4 : decode cX1_daysFor 4 = .ok (.aload_n 0, 1) := by decide +kernel
theorem dX1_daysFor_5 : decode cX1_daysFor 5 = .ok (.aload_n 1, 1) := by decide +kernel
theorem dX1_daysFor_6 : decode cX1_daysFor 6 = .ok (.invokevirtual 77, 3) := by decide +kernel
theorem dX1_daysFor_9 : decode cX1_daysFor 9 = .ok (.iaload, 1) := by decide +kernel
theorem dX1_daysFor_10 : decode cX1_daysFor 10 = .ok (.ireturn, 1) := by decide +kernel
theorem dX1_ordersWithin_0 : decode cX1_ordersWithin 0 = .ok (.iconst 0, 1) := by decide +kernel
theorem dX1_ordersWithin_1 : decode cX1_ordersWithin 1 = .ok (.istore_n 2, 1) := by decide +kernel
theorem dX1_ordersWithin_2 : decode cX1_ordersWithin 2 = .ok (.iconst 0, 1) := by decide +kernel
theorem dX1_ordersWithin_3 : decode cX1_ordersWithin 3 = .ok (.istore_n 3, 1) := by decide +kernel
theorem dX1_ordersWithin_4 : decode cX1_ordersWithin 4 = .ok (.iload_n 3, 1) := by decide +kernel
theorem dX1_ordersWithin_5 : decode cX1_ordersWithin 5 = .ok (.aload_n 0, 1) := by decide +kernel
theorem dX1_ordersWithin_6 : decode cX1_ordersWithin 6 = .ok (.getfield 37, 3) := by decide +kernel
theorem dX1_ordersWithin_9 : decode cX1_ordersWithin 9 = .ok (.if_icmp .ge 27, 3) := by decide +kernel
theorem dX1_ordersWithin_12 : decode cX1_ordersWithin 12 = .ok (.iload_n 2, 1) := by decide +kernel
theorem dX1_ordersWithin_13 : decode cX1_ordersWithin 13 = .ok (.aload_n 0, 1) := by decide +kernel
theorem dX1_ordersWithin_14 : decode cX1_ordersWithin 14 = .ok (.getfield 20, 3) := by decide +kernel
theorem dX1_ordersWithin_17 : decode cX1_ordersWithin 17 = .ok (.iload_n 3, 1) := by decide +kernel
theorem dX1_ordersWithin_18 : decode cX1_ordersWithin 18 = .ok (.iaload, 1) := by decide +kernel
theorem dX1_ordersWithin_19 : decode cX1_ordersWithin 19 = .ok (.iload_n 1, 1) := by decide +kernel
theorem dX1_ordersWithin_20 : decode cX1_ordersWithin 20 = .ok (.if_icmp .gt 7, 3) := by decide +kernel
theorem dX1_ordersWithin_23 : decode cX1_ordersWithin 23 = .ok (.iconst 1, 1) := by decide +kernel
theorem dX1_ordersWithin_24 : decode cX1_ordersWithin 24 = .ok (.goto 4, 3) := by decide +kernel
theorem dX1_ordersWithin_27 : decode cX1_ordersWithin 27 = .ok (.iconst 0, 1) := by decide +kernel
theorem dX1_ordersWithin_28 : decode cX1_ordersWithin 28 = .ok (.iadd, 1) := by decide +kernel
theorem dX1_ordersWithin_29 : decode cX1_ordersWithin 29 = .ok (.istore_n 2, 1) := by decide +kernel
theorem dX1_ordersWithin_30 : decode cX1_ordersWithin 30 = .ok (.iinc 3 1, 3) := by decide +kernel
theorem dX1_ordersWithin_33 : decode cX1_ordersWithin 33 = .ok (.goto (-29), 3) := by decide +kernel
theorem dX1_ordersWithin_36 : decode cX1_ordersWithin 36 = .ok (.iload_n 2, 1) := by decide +kernel
theorem dX1_ordersWithin_37 : decode cX1_ordersWithin 37 = .ok (.ireturn, 1) := by decide +kernel
theorem dX1_countPlaces_0 : decode cX1_countPlaces 0 = .ok (.iconst 0, 1) := by decide +kernel
theorem dX1_countPlaces_1 : decode cX1_countPlaces 1 = .ok (.istore_n 3, 1) := by decide +kernel
theorem dX1_countPlaces_2 : decode cX1_countPlaces 2 = .ok (.iload_n 3, 1) := by decide +kernel
theorem dX1_countPlaces_3 : decode cX1_countPlaces 3 = .ok (.aload_n 0, 1) := by decide +kernel
theorem dX1_countPlaces_4 : decode cX1_countPlaces 4 = .ok (.getfield 9, 3) := by decide +kernel
theorem dX1_countPlaces_7 : decode cX1_countPlaces 7 = .ok (.if_icmp .ge 16, 3) := by decide +kernel
theorem dX1_countPlaces_10 : decode cX1_countPlaces 10 = .ok (.aload_n 0, 1) := by decide +kernel
theorem dX1_countPlaces_11 : decode cX1_countPlaces 11 = .ok (.getfield 24, 3) := by decide +kernel
theorem dX1_countPlaces_14 : decode cX1_countPlaces 14 = .ok (.iload_n 3, 1) := by decide +kernel
theorem dX1_countPlaces_15 : decode cX1_countPlaces 15 = .ok (.iconst 0, 1) := by decide +kernel
theorem dX1_countPlaces_16 : decode cX1_countPlaces 16 = .ok (.iastore, 1) := by decide +kernel
theorem dX1_countPlaces_17 : decode cX1_countPlaces 17 = .ok (.iinc 3 1, 3) := by decide +kernel
theorem dX1_countPlaces_20 : decode cX1_countPlaces 20 = .ok (.goto (-18), 3) := by decide +kernel
theorem dX1_countPlaces_23 : decode cX1_countPlaces 23 = .ok (.iconst 0, 1) := by decide +kernel
theorem dX1_countPlaces_24 : decode cX1_countPlaces 24 = .ok (.istore_n 3, 1) := by decide +kernel
theorem dX1_countPlaces_25 : decode cX1_countPlaces 25 = .ok (.iload_n 3, 1) := by decide +kernel
theorem dX1_countPlaces_26 : decode cX1_countPlaces 26 = .ok (.aload_n 0, 1) := by decide +kernel
theorem dX1_countPlaces_27 : decode cX1_countPlaces 27 = .ok (.getfield 37, 3) := by decide +kernel
theorem dX1_countPlaces_30 : decode cX1_countPlaces 30 = .ok (.if_icmp .ge 68, 3) := by decide +kernel
theorem dX1_countPlaces_33 : decode cX1_countPlaces 33 = .ok (.aload_n 0, 1) := by decide +kernel
theorem dX1_countPlaces_34 : decode cX1_countPlaces 34 = .ok (.getfield 20, 3) := by decide +kernel
theorem dX1_countPlaces_37 : decode cX1_countPlaces 37 = .ok (.iload_n 3, 1) := by decide +kernel
theorem dX1_countPlaces_38 : decode cX1_countPlaces 38 = .ok (.iaload, 1) := by decide +kernel
theorem dX1_countPlaces_39 : decode cX1_countPlaces 39 = .ok (.iload_n 2, 1) := by decide +kernel
theorem dX1_countPlaces_40 : decode cX1_countPlaces 40 = .ok (.if_icmp .gt 52, 3) := by decide +kernel
theorem dX1_countPlaces_43 : decode cX1_countPlaces 43 = .ok (.aload_n 0, 1) := by decide +kernel
theorem dX1_countPlaces_44 : decode cX1_countPlaces 44 = .ok (.iload_n 3, 1) := by decide +kernel
theorem dX1_countPlaces_45 : decode cX1_countPlaces 45 = .ok (.invokevirtual 55, 3) := by decide +kernel
theorem dX1_countPlaces_48 : decode cX1_countPlaces 48 = .ok (.iconst 0, 1) := by decide +kernel
theorem dX1_countPlaces_49 : decode cX1_countPlaces 49 = .ok (.istore 4, 2) := by decide +kernel
theorem dX1_countPlaces_51 : decode cX1_countPlaces 51 = .ok (.iload 4, 2) := by decide +kernel
theorem dX1_countPlaces_53 : decode cX1_countPlaces 53 = .ok (.aload_n 0, 1) := by decide +kernel
theorem dX1_countPlaces_54 : decode cX1_countPlaces 54 = .ok (.getfield 9, 3) := by decide +kernel
theorem dX1_countPlaces_57 : decode cX1_countPlaces 57 = .ok (.if_icmp .ge 35, 3) := by decide +kernel
theorem dX1_countPlaces_60 : decode cX1_countPlaces 60 = .ok (.aload_n 0, 1) := by decide +kernel
theorem dX1_countPlaces_61 : decode cX1_countPlaces 61 = .ok (.getfield 24, 3) := by decide +kernel
theorem dX1_countPlaces_64 : decode cX1_countPlaces 64 = .ok (.iload 4, 2) := by decide +kernel
theorem dX1_countPlaces_66 : decode cX1_countPlaces 66 = .ok (.dup2, 1) := by decide +kernel
theorem dX1_countPlaces_67 : decode cX1_countPlaces 67 = .ok (.iaload, 1) := by decide +kernel
theorem dX1_countPlaces_68 : decode cX1_countPlaces 68 = .ok (.aload_n 0, 1) := by decide +kernel
theorem dX1_countPlaces_69 : decode cX1_countPlaces 69 = .ok (.getfield 27, 3) := by decide +kernel
theorem dX1_countPlaces_72 : decode cX1_countPlaces 72 = .ok (.iload 4, 2) := by decide +kernel
theorem dX1_countPlaces_74 : decode cX1_countPlaces 74 = .ok (.iaload, 1) := by decide +kernel
theorem dX1_countPlaces_75 : decode cX1_countPlaces 75 = .ok (.iload_n 1, 1) := by decide +kernel
theorem dX1_countPlaces_76 : decode cX1_countPlaces 76 = .ok (.if_icmp .ne 7, 3) := by decide +kernel
theorem dX1_countPlaces_79 : decode cX1_countPlaces 79 = .ok (.iconst 1, 1) := by decide +kernel
theorem dX1_countPlaces_80 : decode cX1_countPlaces 80 = .ok (.goto 4, 3) := by decide +kernel
theorem dX1_countPlaces_83 : decode cX1_countPlaces 83 = .ok (.iconst 0, 1) := by decide +kernel
theorem dX1_countPlaces_84 : decode cX1_countPlaces 84 = .ok (.iadd, 1) := by decide +kernel
theorem dX1_countPlaces_85 : decode cX1_countPlaces 85 = .ok (.iastore, 1) := by decide +kernel
theorem dX1_countPlaces_86 : decode cX1_countPlaces 86 = .ok (.iinc 4 1, 3) := by decide +kernel
theorem dX1_countPlaces_89 : decode cX1_countPlaces 89 = .ok (.goto (-38), 3) := by decide +kernel
theorem dX1_countPlaces_92 : decode cX1_countPlaces 92 = .ok (.iinc 3 1, 3) := by decide +kernel
theorem dX1_countPlaces_95 : decode cX1_countPlaces 95 = .ok (.goto (-70), 3) := by decide +kernel
theorem dX1_countPlaces_98 : decode cX1_countPlaces 98 = .ok (.return_, 1) := by decide +kernel
section Walk
variable {p : Program} {l : Launch} {e : Env} {s : State} {m : MethodId} {args : Array Value} {below : List Frame} {meth : Method} {c : Code} {G : GG} {B : Nat}
set_option maxHeartbeats 1000000 in
set_option maxRecDepth 10000 in
theorem mBC (l : Launch) {G : GG} {B : Nat} {x0 : Int32}  {M : Mem} {q : Int32 × Mem} (hf : fBC x0 M = some q) : Met l yBC (wsG yBC cBC 1 (some .int)) (rmN (2)) (PcW Ph G B 205 M [.int x0]) (QcI Ph G B 205 q.1 q.2) 0 0 (fr B) := by
  refine mk_Met (own := RJI) rfl rfl (Nat.le_of_ble_eq_true rfl) ?_
  intro p e s m below meth c ls cx hr hlk wo hl
  have hl : lv_has ls 1 [(0, .int x0)] := hl
  unfold fBC at hf
  refine lv_iload_n cx.1 cx.2.1 dBC_0 rfl (lv_at hl 0 rfl) ?_
  refine lv_iload_n cx.1 cx.2.1 dBC_1 rfl (lv_at hl 0 rfl) ?_
  refine lv_iconst (v := 1) cx.1 cx.2.1 dBC_2 (by decide) ?_
  refine lv_iushr (v := (x0.toUInt32 >>> (Int32.toUInt32 1 &&& Int32.toUInt32 31)).toInt32) cx.1 cx.2.1 dBC_3 rfl ?_
  refine lv_ldcw (v := 1431655765) cx.1 cx.2.1 cx.2.2.2.1 (cx.2.2.2.2.1 _ kcJI_265) dBC_4 ?_
  refine lv_iand cx.1 cx.2.1 dBC_7 ?_
  refine lv_isub cx.1 cx.2.1 dBC_8 ?_
  obtain ⟨y1, e2, hf⟩ := lt_elim hf
  refine r_topi e2 ?_
  refine lv_istore_n (lv' := [(0, .int y1)]) cx.1 cx.2.1 dBC_9 rfl hl (by decide) rfl (fun ls hl => ?_)
  refine lv_iload_n cx.1 cx.2.1 dBC_10 rfl (lv_at hl 0 rfl) ?_
  refine lv_ldcw (v := 858993459) cx.1 cx.2.1 cx.2.2.2.1 (cx.2.2.2.2.1 _ kcJI_266) dBC_11 ?_
  refine lv_iand cx.1 cx.2.1 dBC_14 ?_
  refine lv_iload_n cx.1 cx.2.1 dBC_15 rfl (lv_at hl 0 rfl) ?_
  refine lv_iconst (v := 2) cx.1 cx.2.1 dBC_16 (by decide) ?_
  refine lv_iushr (v := (y1.toUInt32 >>> (Int32.toUInt32 2 &&& Int32.toUInt32 31)).toInt32) cx.1 cx.2.1 dBC_17 rfl ?_
  refine lv_ldcw (v := 858993459) cx.1 cx.2.1 cx.2.2.2.1 (cx.2.2.2.2.1 _ kcJI_266) dBC_18 ?_
  refine lv_iand cx.1 cx.2.1 dBC_21 ?_
  refine lv_iadd cx.1 cx.2.1 dBC_22 ?_
  obtain ⟨y3, e4, hf⟩ := lt_elim hf
  refine r_topi e4 ?_
  refine lv_istore_n (lv' := [(0, .int y3)]) cx.1 cx.2.1 dBC_23 rfl hl (by decide) rfl (fun ls hl => ?_)
  refine lv_iload_n cx.1 cx.2.1 dBC_24 rfl (lv_at hl 0 rfl) ?_
  refine lv_iload_n cx.1 cx.2.1 dBC_25 rfl (lv_at hl 0 rfl) ?_
  refine lv_iconst (v := 4) cx.1 cx.2.1 dBC_26 (by decide) ?_
  refine lv_iushr (v := (y3.toUInt32 >>> (Int32.toUInt32 4 &&& Int32.toUInt32 31)).toInt32) cx.1 cx.2.1 dBC_27 rfl ?_
  refine lv_iadd cx.1 cx.2.1 dBC_28 ?_
  refine lv_ldcw (v := 252645135) cx.1 cx.2.1 cx.2.2.2.1 (cx.2.2.2.2.1 _ kcJI_267) dBC_29 ?_
  refine lv_iand cx.1 cx.2.1 dBC_32 ?_
  obtain ⟨y5, e6, hf⟩ := lt_elim hf
  refine r_topi e6 ?_
  refine lv_istore_n (lv' := [(0, .int y5)]) cx.1 cx.2.1 dBC_33 rfl hl (by decide) rfl (fun ls hl => ?_)
  refine lv_iload_n cx.1 cx.2.1 dBC_34 rfl (lv_at hl 0 rfl) ?_
  refine lv_iload_n cx.1 cx.2.1 dBC_35 rfl (lv_at hl 0 rfl) ?_
  refine lv_bipush (v := 8) cx.1 cx.2.1 dBC_36 (by decide) ?_
  refine lv_iushr (v := (y5.toUInt32 >>> (Int32.toUInt32 8 &&& Int32.toUInt32 31)).toInt32) cx.1 cx.2.1 dBC_38 rfl ?_
  refine lv_iadd cx.1 cx.2.1 dBC_39 ?_
  obtain ⟨y7, e8, hf⟩ := lt_elim hf
  refine r_topi e8 ?_
  refine lv_istore_n (lv' := [(0, .int y7)]) cx.1 cx.2.1 dBC_40 rfl hl (by decide) rfl (fun ls hl => ?_)
  refine lv_iload_n cx.1 cx.2.1 dBC_41 rfl (lv_at hl 0 rfl) ?_
  refine lv_iload_n cx.1 cx.2.1 dBC_42 rfl (lv_at hl 0 rfl) ?_
  refine lv_bipush (v := 16) cx.1 cx.2.1 dBC_43 (by decide) ?_
  refine lv_iushr (v := (y7.toUInt32 >>> (Int32.toUInt32 16 &&& Int32.toUInt32 31)).toInt32) cx.1 cx.2.1 dBC_45 rfl ?_
  refine lv_iadd cx.1 cx.2.1 dBC_46 ?_
  obtain ⟨y9, e10, hf⟩ := lt_elim hf
  refine r_topi e10 ?_
  refine lv_istore_n (lv' := [(0, .int y9)]) cx.1 cx.2.1 dBC_47 rfl hl (by decide) rfl (fun ls hl => ?_)
  refine lv_iload_n cx.1 cx.2.1 dBC_48 rfl (lv_at hl 0 rfl) ?_
  refine lv_bipush (v := 63) cx.1 cx.2.1 dBC_49 (by decide) ?_
  refine lv_iand cx.1 cx.2.1 dBC_51 ?_
  have hq := Option.some.inj hf
  subst hq
  exact r_iret cx wo hr hlk dBC_52
set_option maxHeartbeats 1000000 in
set_option maxRecDepth 10000 in
theorem wX1_isFull_4 (cx : Cx p s m args c cX1_isFull 4 RX1 G) (hr : meth.sig.returnType = (some .boolean)) (hlk : meth.locks = false) : ∀ (n : Nat) (a0 : Nat) (x1 : Int32) (x2 : Int32) (x3 : Int32) (h0 : isI a0) (M : Mem) (q : Int32 × Mem), fX1_isFull_4 n a0 x1 x2 x3 M = some q → ∀ (H : Heap) (locs : List Loc) (ls : Array Slot), Wo Ph G B 205 s M H locs → lv_has ls 4 [(0, .ref (B + a0)), (1, .int x1), (2, .int x2), (3, .int x3)] → W p l e (rmN (2)) s m args below meth c H locs 0 0 (MQ below (QcI Ph G B 205 q.1 q.2) args s 0 0 (fr B)) (F0 m 4 ls []) := by
  intro n
  induction n with
  | zero =>
    intro a0 x1 x2 x3 h0 M q hf H locs ls wo hl
    have hf : none = some q := hf
    cases hf
  | succ n ih =>
    intro a0 x1 x2 x3 h0 M q hf H locs ls wo hl
    rw [fX1_isFull_4] at hf
    refine lv_iload_n cx.1 cx.2.1 dX1_isFull_4 rfl (lv_at hl 3 rfl) ?_
    refine lv_iload_n cx.1 cx.2.1 dX1_isFull_5 rfl (lv_at hl 2 rfl) ?_
    refine lv_icmp_ge (tgt := 38) cx.1 cx.2.1 dX1_isFull_6 (by decide) (fun c3 => ?_) (fun c3 => ?_)
    · rw [if_pos c3] at hf
      refine lv_iconst (v := 1) cx.1 cx.2.1 dX1_isFull_38 (by decide) ?_
      have hq := Option.some.inj hf
      subst hq
      exact r_zret cx wo hr hlk (Or.inr rfl) dX1_isFull_39
    · rw [if_neg c3] at hf
      refine lv_aload_n cx.1 cx.2.1 dX1_isFull_9 rfl (lv_at hl 0 rfl) ?_
      refine lv_iload_n cx.1 cx.2.1 dX1_isFull_10 rfl (lv_at hl 3 rfl) ?_
      obtain ⟨g4, hf⟩ := gd_elim hf
      refine r_iald cx wo (h0).1 (h0).2.1 (h0).2.2 g4 dX1_isFull_11 ?_
      refine lv_iload_n cx.1 cx.2.1 dX1_isFull_12 rfl (lv_at hl 3 rfl) ?_
      refine lv_icmp_eq (tgt := 30) cx.1 cx.2.1 dX1_isFull_13 (by decide) (fun c5 => ?_) (fun c5 => ?_)
      · rw [if_pos c5] at hf
        refine lv_iconst (v := 0) cx.1 cx.2.1 dX1_isFull_30 (by decide) ?_
        have hq := Option.some.inj hf
        subst hq
        exact r_zret cx wo hr hlk (Or.inl rfl) dX1_isFull_31
      · rw [if_neg c5] at hf
        refine lv_aload_n cx.1 cx.2.1 dX1_isFull_16 rfl (lv_at hl 0 rfl) ?_
        refine lv_iload_n cx.1 cx.2.1 dX1_isFull_17 rfl (lv_at hl 3 rfl) ?_
        obtain ⟨g6, hf⟩ := gd_elim hf
        refine r_iald cx wo (h0).1 (h0).2.1 (h0).2.2 g6 dX1_isFull_18 ?_
        refine lv_iload_n cx.1 cx.2.1 dX1_isFull_19 rfl (lv_at hl 1 rfl) ?_
        refine lv_icmp_le (tgt := 30) cx.1 cx.2.1 dX1_isFull_20 (by decide) (fun c7 => ?_) (fun c7 => ?_)
        · rw [if_pos c7] at hf
          refine lv_iconst (v := 0) cx.1 cx.2.1 dX1_isFull_30 (by decide) ?_
          have hq := Option.some.inj hf
          subst hq
          exact r_zret cx wo hr hlk (Or.inl rfl) dX1_isFull_31
        · rw [if_neg c7] at hf
          refine lv_aload_n cx.1 cx.2.1 dX1_isFull_23 rfl (lv_at hl 0 rfl) ?_
          refine lv_iload_n cx.1 cx.2.1 dX1_isFull_24 rfl (lv_at hl 3 rfl) ?_
          obtain ⟨g8, hf⟩ := gd_elim hf
          refine r_iald cx wo (h0).1 (h0).2.1 (h0).2.2 g8 dX1_isFull_25 ?_
          refine lv_iload_n cx.1 cx.2.1 dX1_isFull_26 rfl (lv_at hl 2 rfl) ?_
          refine lv_icmp_lt (tgt := 32) cx.1 cx.2.1 dX1_isFull_27 (by decide) (fun c9 => ?_) (fun c9 => ?_)
          · rw [if_pos c9] at hf
            obtain ⟨y10, e11, hf⟩ := lt_elim hf
            refine lv_iinc (v := y10) (lv' := [(3, .int y10), (0, .ref (B + a0)), (1, .int x1), (2, .int x2)]) cx.1 cx.2.1 dX1_isFull_32 hl (k := 3) rfl (by rw [e11]; rfl) (by decide) rfl (fun ls hl => ?_)
            refine lv_goto (tgt := 4) cx.1 cx.2.1 dX1_isFull_35 (by decide) ?_
            exact ih _ _ _ _ h0 _ _ hf _ _ _ wo (lv_sub hl [1, 2, 3, 0] rfl)
          · rw [if_neg c9] at hf
            refine lv_iconst (v := 0) cx.1 cx.2.1 dX1_isFull_30 (by decide) ?_
            have hq := Option.some.inj hf
            subst hq
            exact r_zret cx wo hr hlk (Or.inl rfl) dX1_isFull_31
set_option maxHeartbeats 1000000 in
set_option maxRecDepth 10000 in
theorem mX1_isFull (l : Launch) {G : GG} {B : Nat} {a0 : Nat} {x1 : Int32} {x2 : Int32} (h0 : isI a0) {M : Mem} {q : Int32 × Mem} (hf : fX1_isFull a0 x1 x2 M = some q) : Met l yX1_isFull (wsG yX1_isFull cX1_isFull 4 (some .boolean)) (rmN (2)) (PcW Ph G B 205 M [.ref (B + a0), .int x1, .int x2]) (QcI Ph G B 205 q.1 q.2) 0 0 (fr B) := by
  refine mk_Met (own := RX1) rfl rfl (Nat.le_of_ble_eq_true rfl) ?_
  intro p e s m below meth c ls cx hr hlk wo hl
  have hl : lv_has ls 4 [(0, .ref (B + a0)), (1, .int x1), (2, .int x2)] := hl
  unfold fX1_isFull at hf
  refine lv_iload_n cx.1 cx.2.1 dX1_isFull_0 rfl (lv_at hl 1 rfl) ?_
  refine lv_iconst (v := 1) cx.1 cx.2.1 dX1_isFull_1 (by decide) ?_
  refine lv_iadd cx.1 cx.2.1 dX1_isFull_2 ?_
  obtain ⟨y1, e2, hf⟩ := lt_elim hf
  refine r_topi e2 ?_
  refine lv_istore_n (lv' := [(3, .int y1), (0, .ref (B + a0)), (1, .int x1), (2, .int x2)]) cx.1 cx.2.1 dX1_isFull_3 rfl hl (by decide) rfl (fun ls hl => ?_)
  exact wX1_isFull_4 cx hr hlk _ _ _ _ _ h0 _ _ hf _ _ _ wo (lv_sub hl [1, 2, 3, 0] rfl)
set_option maxHeartbeats 1000000 in
set_option maxRecDepth 10000 in
theorem wX1_isLawful_2 (cx : Cx p s m args c cX1_isLawful 4 RX1 G) (hr : meth.sig.returnType = (some .boolean)) (hlk : meth.locks = false) : ∀ (n : Nat) (a0 : Nat) (x1 : Int32) (x2 : Int32) (h0 : isI a0) (M : Mem) (q : Int32 × Mem), fX1_isLawful_2 n a0 x1 x2 M = some q → ∀ (H : Heap) (locs : List Loc) (ls : Array Slot), Wo Ph G B 205 s M H locs → lv_has ls 4 [(0, .ref (B + a0)), (1, .int x1), (2, .int x2)] → W p l e (rmN (3)) s m args below meth c H locs 0 0 (MQ below (QcI Ph G B 205 q.1 q.2) args s 0 0 (fr B)) (F0 m 2 ls []) := by
  intro n
  induction n with
  | zero =>
    intro a0 x1 x2 h0 M q hf H locs ls wo hl
    have hf : none = some q := hf
    cases hf
  | succ n ih =>
    intro a0 x1 x2 h0 M q hf H locs ls wo hl
    rw [fX1_isLawful_2] at hf
    refine lv_iload_n cx.1 cx.2.1 dX1_isLawful_2 rfl (lv_at hl 2 rfl) ?_
    refine lv_iload_n cx.1 cx.2.1 dX1_isLawful_3 rfl (lv_at hl 1 rfl) ?_
    refine lv_icmp_ge (tgt := 44) cx.1 cx.2.1 dX1_isLawful_4 (by decide) (fun c1 => ?_) (fun c1 => ?_)
    · rw [if_pos c1] at hf
      refine lv_iconst (v := 1) cx.1 cx.2.1 dX1_isLawful_44 (by decide) ?_
      have hq := Option.some.inj hf
      subst hq
      exact r_zret cx wo hr hlk (Or.inr rfl) dX1_isLawful_45
    · rw [if_neg c1] at hf
      refine lv_aload_n cx.1 cx.2.1 dX1_isLawful_7 rfl (lv_at hl 0 rfl) ?_
      refine lv_iload_n cx.1 cx.2.1 dX1_isLawful_8 rfl (lv_at hl 2 rfl) ?_
      obtain ⟨g2, hf⟩ := gd_elim hf
      refine r_iald cx wo (h0).1 (h0).2.1 (h0).2.2 g2 dX1_isLawful_9 ?_
      obtain ⟨y3, e4, hf⟩ := lt_elim hf
      refine r_topi e4 ?_
      refine lv_istore_n (lv' := [(3, .int y3), (0, .ref (B + a0)), (1, .int x1), (2, .int x2)]) cx.1 cx.2.1 dX1_isLawful_10 rfl hl (by decide) rfl (fun ls hl => ?_)
      refine lv_iload_n cx.1 cx.2.1 dX1_isLawful_11 rfl (lv_at hl 0 rfl) ?_
      refine lv_if_lt (tgt := 36) cx.1 cx.2.1 dX1_isLawful_12 (by decide) (fun c5 => ?_) (fun c5 => ?_)
      · rw [if_pos c5] at hf
        refine lv_iconst (v := 0) cx.1 cx.2.1 dX1_isLawful_36 (by decide) ?_
        have hq := Option.some.inj hf
        subst hq
        exact r_zret cx wo hr hlk (Or.inl rfl) dX1_isLawful_37
      · rw [if_neg c5] at hf
        refine lv_iload_n cx.1 cx.2.1 dX1_isLawful_15 rfl (lv_at hl 0 rfl) ?_
        refine lv_iload_n cx.1 cx.2.1 dX1_isLawful_16 rfl (lv_at hl 2 rfl) ?_
        refine lv_icmp_ge (tgt := 36) cx.1 cx.2.1 dX1_isLawful_17 (by decide) (fun c6 => ?_) (fun c6 => ?_)
        · rw [if_pos c6] at hf
          refine lv_iconst (v := 0) cx.1 cx.2.1 dX1_isLawful_36 (by decide) ?_
          have hq := Option.some.inj hf
          subst hq
          exact r_zret cx wo hr hlk (Or.inl rfl) dX1_isLawful_37
        · rw [if_neg c6] at hf
          refine lv_aload_n cx.1 cx.2.1 dX1_isLawful_20 rfl (lv_at hl 1 rfl) ?_
          refine lv_iload_n cx.1 cx.2.1 dX1_isLawful_21 rfl (lv_at hl 0 rfl) ?_
          obtain ⟨g7, hf⟩ := gd_elim hf
          refine r_iald cx wo (h0).1 (h0).2.1 (h0).2.2 g7 dX1_isLawful_22 ?_
          refine lv_iload_n cx.1 cx.2.1 dX1_isLawful_23 rfl (lv_at hl 3 rfl) ?_
          refine lv_icmp_ne (tgt := 36) cx.1 cx.2.1 dX1_isLawful_24 (by decide) (fun c8 => ?_) (fun c8 => ?_)
          · rw [if_neg c8] at hf
            refine lv_iconst (v := 0) cx.1 cx.2.1 dX1_isLawful_36 (by decide) ?_
            have hq := Option.some.inj hf
            subst hq
            exact r_zret cx wo hr hlk (Or.inl rfl) dX1_isLawful_37
          · rw [if_pos c8] at hf
            refine lv_aload_n cx.1 cx.2.1 dX1_isLawful_27 rfl (lv_at hl 1 rfl) ?_
            refine lv_iload_n cx.1 cx.2.1 dX1_isLawful_28 rfl (lv_at hl 3 rfl) ?_
            refine lv_iload_n cx.1 cx.2.1 dX1_isLawful_29 rfl (lv_at hl 0 rfl) ?_
            obtain ⟨q9, e10, hf⟩ := bd_elim hf
            refine r_Si (rest := []) cx wo (mX1_isFull l (h0) e10) csX1_33 rfl hl.1 rfl (Nat.le_of_ble_eq_true rfl) (hR_ok (by decide)) dX1_isLawful_30 (fun H locs wo => ?_)
            refine lv_if_ne (tgt := 38) cx.1 cx.2.1 dX1_isLawful_33 (by decide) (fun c11 => ?_) (fun c11 => ?_)
            · rw [if_neg c11] at hf
              obtain ⟨y12, e13, hf⟩ := lt_elim hf
              refine lv_iinc (v := y12) (lv' := [(2, .int y12), (3, .int y3), (0, .ref (B + a0)), (1, .int x1)]) cx.1 cx.2.1 dX1_isLawful_38 hl (k := 3) rfl (by rw [e13]; rfl) (by decide) rfl (fun ls hl => ?_)
              refine lv_goto (tgt := 2) cx.1 cx.2.1 dX1_isLawful_41 (by decide) ?_
              exact ih _ _ _ h0 _ _ hf _ _ _ wo (lv_sub hl [2, 3, 0] rfl)
            · rw [if_pos c11] at hf
              refine lv_iconst (v := 0) cx.1 cx.2.1 dX1_isLawful_36 (by decide) ?_
              have hq := Option.some.inj hf
              subst hq
              exact r_zret cx wo hr hlk (Or.inl rfl) dX1_isLawful_37
set_option maxHeartbeats 1000000 in
set_option maxRecDepth 10000 in
theorem mX1_isLawful (l : Launch) {G : GG} {B : Nat} {a0 : Nat} {x1 : Int32} (h0 : isI a0) {M : Mem} {q : Int32 × Mem} (hf : fX1_isLawful a0 x1 M = some q) : Met l yX1_isLawful (wsG yX1_isLawful cX1_isLawful 4 (some .boolean)) (rmN (3)) (PcW Ph G B 205 M [.ref (B + a0), .int x1]) (QcI Ph G B 205 q.1 q.2) 0 0 (fr B) := by
  refine mk_Met (own := RX1) rfl rfl (Nat.le_of_ble_eq_true rfl) ?_
  intro p e s m below meth c ls cx hr hlk wo hl
  have hl : lv_has ls 4 [(0, .ref (B + a0)), (1, .int x1)] := hl
  unfold fX1_isLawful at hf
  refine lv_iconst (v := 0) cx.1 cx.2.1 dX1_isLawful_0 (by decide) ?_
  refine lv_istore_n (lv' := [(2, .int 0), (0, .ref (B + a0)), (1, .int x1)]) cx.1 cx.2.1 dX1_isLawful_1 rfl hl (by decide) rfl (fun ls hl => ?_)
  exact wX1_isLawful_2 cx hr hlk _ _ _ _ h0 _ _ hf _ _ _ wo (lv_sub hl [1, 2, 0] rfl)
set_option maxHeartbeats 1000000 in
set_option maxRecDepth 10000 in
theorem wX1_pairsOf_4 (cx : Cx p s m args c cX1_pairsOf 4 RX1 G) (hr : meth.sig.returnType = (some .int)) (hlk : meth.locks = false) : ∀ (n : Nat) (a0 : Nat) (x1 : Int32) (x2 : Int32) (x3 : Int32) (h0 : isI a0) (M : Mem) (q : Int32 × Mem), fX1_pairsOf_4 n a0 x1 x2 x3 M = some q → ∀ (H : Heap) (locs : List Loc) (ls : Array Slot), Wo Ph G B 205 s M H locs → lv_has ls 4 [(0, .ref (B + a0)), (1, .int x1), (2, .int x2), (3, .int x3)] → W p l e (rmN (2)) s m args below meth c H locs 0 0 (MQ below (QcI Ph G B 205 q.1 q.2) args s 0 0 (fr B)) (F0 m 4 ls []) := by
  intro n
  induction n with
  | zero =>
    intro a0 x1 x2 x3 h0 M q hf H locs ls wo hl
    have hf : none = some q := hf
    cases hf
  | succ n ih =>
    intro a0 x1 x2 x3 h0 M q hf H locs ls wo hl
    rw [fX1_pairsOf_4] at hf
    refine lv_iload_n cx.1 cx.2.1 dX1_pairsOf_4 rfl (lv_at hl 3 rfl) ?_
    refine lv_iload_n cx.1 cx.2.1 dX1_pairsOf_5 rfl (lv_at hl 1 rfl) ?_
    refine lv_icmp_ge (tgt := 30) cx.1 cx.2.1 dX1_pairsOf_6 (by decide) (fun c1 => ?_) (fun c1 => ?_)
    · rw [if_pos c1] at hf
      refine lv_iload_n cx.1 cx.2.1 dX1_pairsOf_30 rfl (lv_at hl 2 rfl) ?_
      have hq := Option.some.inj hf
      subst hq
      exact r_iret cx wo hr hlk dX1_pairsOf_31
    · rw [if_neg c1] at hf
      refine lv_iload_n cx.1 cx.2.1 dX1_pairsOf_9 rfl (lv_at hl 2 rfl) ?_
      refine lv_aload_n cx.1 cx.2.1 dX1_pairsOf_10 rfl (lv_at hl 0 rfl) ?_
      refine lv_iload_n cx.1 cx.2.1 dX1_pairsOf_11 rfl (lv_at hl 3 rfl) ?_
      obtain ⟨g2, hf⟩ := gd_elim hf
      refine r_iald cx wo (h0).1 (h0).2.1 (h0).2.2 g2 dX1_pairsOf_12 ?_
      refine lv_iload_n cx.1 cx.2.1 dX1_pairsOf_13 rfl (lv_at hl 3 rfl) ?_
      refine lv_icmp_le (tgt := 21) cx.1 cx.2.1 dX1_pairsOf_14 (by decide) (fun c3 => ?_) (fun c3 => ?_)
      · rw [if_pos c3] at hf
        refine lv_iconst (v := 0) cx.1 cx.2.1 dX1_pairsOf_21 (by decide) ?_
        refine lv_iadd cx.1 cx.2.1 dX1_pairsOf_22 ?_
        obtain ⟨y4, e5, hf⟩ := lt_elim hf
        refine r_topi e5 ?_
        refine lv_istore_n (lv' := [(2, .int y4), (0, .ref (B + a0)), (1, .int x1), (3, .int x3)]) cx.1 cx.2.1 dX1_pairsOf_23 rfl hl (by decide) rfl (fun ls hl => ?_)
        obtain ⟨y6, e7, hf⟩ := lt_elim hf
        refine lv_iinc (v := y6) (lv' := [(3, .int y6), (2, .int y4), (0, .ref (B + a0)), (1, .int x1)]) cx.1 cx.2.1 dX1_pairsOf_24 hl (k := 3) rfl (by rw [e7]; rfl) (by decide) rfl (fun ls hl => ?_)
        refine lv_goto (tgt := 4) cx.1 cx.2.1 dX1_pairsOf_27 (by decide) ?_
        exact ih _ _ _ _ h0 _ _ hf _ _ _ wo (lv_sub hl [2, 3, 1, 0] rfl)
      · rw [if_neg c3] at hf
        refine lv_iconst (v := 1) cx.1 cx.2.1 dX1_pairsOf_17 (by decide) ?_
        refine lv_goto (tgt := 22) cx.1 cx.2.1 dX1_pairsOf_18 (by decide) ?_
        refine lv_iadd cx.1 cx.2.1 dX1_pairsOf_22 ?_
        obtain ⟨y8, e9, hf⟩ := lt_elim hf
        refine r_topi e9 ?_
        refine lv_istore_n (lv' := [(2, .int y8), (0, .ref (B + a0)), (1, .int x1), (3, .int x3)]) cx.1 cx.2.1 dX1_pairsOf_23 rfl hl (by decide) rfl (fun ls hl => ?_)
        obtain ⟨y10, e11, hf⟩ := lt_elim hf
        refine lv_iinc (v := y10) (lv' := [(3, .int y10), (2, .int y8), (0, .ref (B + a0)), (1, .int x1)]) cx.1 cx.2.1 dX1_pairsOf_24 hl (k := 3) rfl (by rw [e11]; rfl) (by decide) rfl (fun ls hl => ?_)
        refine lv_goto (tgt := 4) cx.1 cx.2.1 dX1_pairsOf_27 (by decide) ?_
        exact ih _ _ _ _ h0 _ _ hf _ _ _ wo (lv_sub hl [2, 3, 1, 0] rfl)
set_option maxHeartbeats 1000000 in
set_option maxRecDepth 10000 in
theorem mX1_pairsOf (l : Launch) {G : GG} {B : Nat} {a0 : Nat} {x1 : Int32} (h0 : isI a0) {M : Mem} {q : Int32 × Mem} (hf : fX1_pairsOf a0 x1 M = some q) : Met l yX1_pairsOf (wsG yX1_pairsOf cX1_pairsOf 4 (some .int)) (rmN (2)) (PcW Ph G B 205 M [.ref (B + a0), .int x1]) (QcI Ph G B 205 q.1 q.2) 0 0 (fr B) := by
  refine mk_Met (own := RX1) rfl rfl (Nat.le_of_ble_eq_true rfl) ?_
  intro p e s m below meth c ls cx hr hlk wo hl
  have hl : lv_has ls 4 [(0, .ref (B + a0)), (1, .int x1)] := hl
  unfold fX1_pairsOf at hf
  refine lv_iconst (v := 0) cx.1 cx.2.1 dX1_pairsOf_0 (by decide) ?_
  refine lv_istore_n (lv' := [(2, .int 0), (0, .ref (B + a0)), (1, .int x1)]) cx.1 cx.2.1 dX1_pairsOf_1 rfl hl (by decide) rfl (fun ls hl => ?_)
  refine lv_iconst (v := 0) cx.1 cx.2.1 dX1_pairsOf_2 (by decide) ?_
  refine lv_istore_n (lv' := [(3, .int 0), (2, .int 0), (0, .ref (B + a0)), (1, .int x1)]) cx.1 cx.2.1 dX1_pairsOf_3 rfl hl (by decide) rfl (fun ls hl => ?_)
  exact wX1_pairsOf_4 cx hr hlk _ _ _ _ _ h0 _ _ hf _ _ _ wo (lv_sub hl [2, 3, 1, 0] rfl)
set_option maxHeartbeats 1000000 in
set_option maxRecDepth 10000 in
theorem wX1_nthBit_4 (cx : Cx p s m args c cX1_nthBit 4 RX1 G) (hr : meth.sig.returnType = (some .int)) (hlk : meth.locks = false) : ∀ (n : Nat) (x0 : Int32) (x1 : Int32) (x2 : Int32) (x3 : Int32)  (M : Mem) (q : Int32 × Mem), fX1_nthBit_4 n x0 x1 x2 x3 M = some q → ∀ (H : Heap) (locs : List Loc) (ls : Array Slot), Wo Ph G B 205 s M H locs → lv_has ls 4 [(0, .int x0), (1, .int x1), (2, .int x2), (3, .int x3)] → W p l e (rmN (2)) s m args below meth c H locs 0 0 (MQ below (QcI Ph G B 205 q.1 q.2) args s 0 0 (fr B)) (F0 m 4 ls []) := by
  intro n
  induction n with
  | zero =>
    intro x0 x1 x2 x3 M q hf H locs ls wo hl
    have hf : none = some q := hf
    cases hf
  | succ n ih =>
    intro x0 x1 x2 x3 M q hf H locs ls wo hl
    rw [fX1_nthBit_4] at hf
    refine lv_iload_n cx.1 cx.2.1 dX1_nthBit_4 rfl (lv_at hl 3 rfl) ?_
    refine lv_bipush (v := 6) cx.1 cx.2.1 dX1_nthBit_5 (by decide) ?_
    refine lv_icmp_ge (tgt := 34) cx.1 cx.2.1 dX1_nthBit_7 (by decide) (fun c1 => ?_) (fun c1 => ?_)
    · rw [if_pos c1] at hf
      refine lv_iconst (v := 0) cx.1 cx.2.1 dX1_nthBit_34 (by decide) ?_
      have hq := Option.some.inj hf
      subst hq
      exact r_iret cx wo hr hlk dX1_nthBit_35
    · rw [if_neg c1] at hf
      refine lv_iload_n cx.1 cx.2.1 dX1_nthBit_10 rfl (lv_at hl 0 rfl) ?_
      refine lv_iload_n cx.1 cx.2.1 dX1_nthBit_11 rfl (lv_at hl 3 rfl) ?_
      refine lv_ishr cx.1 cx.2.1 dX1_nthBit_12 ?_
      refine lv_iconst (v := 1) cx.1 cx.2.1 dX1_nthBit_13 (by decide) ?_
      refine lv_iand cx.1 cx.2.1 dX1_nthBit_14 ?_
      refine lv_if_eq (tgt := 28) cx.1 cx.2.1 dX1_nthBit_15 (by decide) (fun c2 => ?_) (fun c2 => ?_)
      · rw [if_pos c2] at hf
        obtain ⟨y3, e4, hf⟩ := lt_elim hf
        refine lv_iinc (v := y3) (lv' := [(3, .int y3), (0, .int x0), (1, .int x1), (2, .int x2)]) cx.1 cx.2.1 dX1_nthBit_28 hl (k := 3) rfl (by rw [e4]; rfl) (by decide) rfl (fun ls hl => ?_)
        refine lv_goto (tgt := 4) cx.1 cx.2.1 dX1_nthBit_31 (by decide) ?_
        exact ih _ _ _ _ _ _ hf _ _ _ wo (lv_sub hl [1, 2, 3, 0] rfl)
      · rw [if_neg c2] at hf
        refine lv_iload_n cx.1 cx.2.1 dX1_nthBit_18 rfl (lv_at hl 2 rfl) ?_
        refine lv_iload_n cx.1 cx.2.1 dX1_nthBit_19 rfl (lv_at hl 1 rfl) ?_
        refine lv_icmp_ne (tgt := 25) cx.1 cx.2.1 dX1_nthBit_20 (by decide) (fun c5 => ?_) (fun c5 => ?_)
        · rw [if_neg c5] at hf
          obtain ⟨y6, e7, hf⟩ := lt_elim hf
          refine lv_iinc (v := y6) (lv' := [(2, .int y6), (0, .int x0), (1, .int x1), (3, .int x3)]) cx.1 cx.2.1 dX1_nthBit_25 hl (k := 2) rfl (by rw [e7]; rfl) (by decide) rfl (fun ls hl => ?_)
          obtain ⟨y8, e9, hf⟩ := lt_elim hf
          refine lv_iinc (v := y8) (lv' := [(3, .int y8), (2, .int y6), (0, .int x0), (1, .int x1)]) cx.1 cx.2.1 dX1_nthBit_28 hl (k := 3) rfl (by rw [e9]; rfl) (by decide) rfl (fun ls hl => ?_)
          refine lv_goto (tgt := 4) cx.1 cx.2.1 dX1_nthBit_31 (by decide) ?_
          exact ih _ _ _ _ _ _ hf _ _ _ wo (lv_sub hl [2, 3, 1, 0] rfl)
        · rw [if_pos c5] at hf
          refine lv_iload_n cx.1 cx.2.1 dX1_nthBit_23 rfl (lv_at hl 3 rfl) ?_
          have hq := Option.some.inj hf
          subst hq
          exact r_iret cx wo hr hlk dX1_nthBit_24
set_option maxHeartbeats 1000000 in
set_option maxRecDepth 10000 in
theorem mX1_nthBit (l : Launch) {G : GG} {B : Nat} {x0 : Int32} {x1 : Int32}  {M : Mem} {q : Int32 × Mem} (hf : fX1_nthBit x0 x1 M = some q) : Met l yX1_nthBit (wsG yX1_nthBit cX1_nthBit 4 (some .int)) (rmN (2)) (PcW Ph G B 205 M [.int x0, .int x1]) (QcI Ph G B 205 q.1 q.2) 0 0 (fr B) := by
  refine mk_Met (own := RX1) rfl rfl (Nat.le_of_ble_eq_true rfl) ?_
  intro p e s m below meth c ls cx hr hlk wo hl
  have hl : lv_has ls 4 [(0, .int x0), (1, .int x1)] := hl
  unfold fX1_nthBit at hf
  refine lv_iconst (v := 0) cx.1 cx.2.1 dX1_nthBit_0 (by decide) ?_
  refine lv_istore_n (lv' := [(2, .int 0), (0, .int x0), (1, .int x1)]) cx.1 cx.2.1 dX1_nthBit_1 rfl hl (by decide) rfl (fun ls hl => ?_)
  refine lv_iconst (v := 0) cx.1 cx.2.1 dX1_nthBit_2 (by decide) ?_
  refine lv_istore_n (lv' := [(3, .int 0), (2, .int 0), (0, .int x0), (1, .int x1)]) cx.1 cx.2.1 dX1_nthBit_3 rfl hl (by decide) rfl (fun ls hl => ?_)
  exact wX1_nthBit_4 cx hr hlk _ _ _ _ _ _ _ hf _ _ _ wo (lv_sub hl [2, 3, 1, 0] rfl)
set_option maxHeartbeats 1000000 in
set_option maxRecDepth 10000 in
theorem wX1_unpack_50 (cx : Cx p s m args c cX1_unpack 7 RX1 G) (hr : meth.sig.returnType = none) (hlk : meth.locks = false) {k20 : Int32 → Int32 → Int32 → Int32 → Mem → Option (Mem)} (hk20 : ∀ (x2 : Int32) (x3 : Int32) (x4 : Int32) (x5 : Int32)  (M : Mem) (q : Mem), k20 x2 x3 x4 x5 M = some q → ∀ (H : Heap) (locs : List Loc) (ls : Array Slot), Wo Ph G B 205 s M H locs → lv_has ls 7 [(0, .ref (B + 115)), (2, .int x2), (3, .int x3), (4, .int x4), (5, .int x5)] → W p l e (rmN (3)) s m args below meth c H locs 0 0 (MQ below (QcV Ph G B 205 q) args s 0 0 (fr B)) (F0 m 20 ls [])) : ∀ (x2 : Int32) (x3 : Int32) (x4 : Int32) (x5 : Int32) (s0 : Int32)  (M : Mem) (q : Mem), fX1_unpack_50 k20 x2 x3 x4 x5 s0 M = some q → ∀ (H : Heap) (locs : List Loc) (ls : Array Slot), Wo Ph G B 205 s M H locs → lv_has ls 7 [(0, .ref (B + 115)), (2, .int x2), (3, .int x3), (4, .int x4), (5, .int x5)] → W p l e (rmN (3)) s m args below meth c H locs 0 0 (MQ below (QcV Ph G B 205 q) args s 0 0 (fr B)) (F0 m 50 ls [.int s0]) := by
  intro x2 x3 x4 x5 s0 M q hf H locs ls wo hl
  unfold fX1_unpack_50 at hf
  refine lv_istore (lv' := [(6, .int s0), (0, .ref (B + 115)), (2, .int x2), (3, .int x3), (4, .int x4), (5, .int x5)]) cx.1 cx.2.1 dX1_unpack_50 hl (by decide) rfl (fun ls hl => ?_)
  refine lv_iload_n cx.1 cx.2.1 dX1_unpack_52 rfl (lv_at hl 2 rfl) ?_
  refine lv_iload cx.1 cx.2.1 dX1_unpack_53 (lv_at hl 0 rfl) ?_
  refine lv_iload_n cx.1 cx.2.1 dX1_unpack_55 rfl (lv_at hl 3 rfl) ?_
  refine lv_imul cx.1 cx.2.1 dX1_unpack_56 ?_
  refine lv_isub cx.1 cx.2.1 dX1_unpack_57 ?_
  obtain ⟨y11, e12, hf⟩ := lt_elim hf
  refine r_topi e12 ?_
  refine lv_istore_n (lv' := [(2, .int y11), (6, .int s0), (0, .ref (B + 115)), (3, .int x3), (4, .int x4), (5, .int x5)]) cx.1 cx.2.1 dX1_unpack_58 rfl hl (by decide) rfl (fun ls hl => ?_)
  refine lv_aload_n cx.1 cx.2.1 dX1_unpack_59 rfl (lv_at hl 2 rfl) ?_
  refine r_getR cx wo ad_115.1 ad_115.2.1 ad_115.2.2 fiX1_27 (fn_115_8 wo.2.2.2.1) (by decide) dX1_unpack_60 ?_
  refine lv_iload cx.1 cx.2.1 dX1_unpack_63 (lv_at hl 5 rfl) ?_
  refine lv_iload cx.1 cx.2.1 dX1_unpack_65 (lv_at hl 4 rfl) ?_
  refine lv_iload cx.1 cx.2.1 dX1_unpack_67 (lv_at hl 1 rfl) ?_
  obtain ⟨q13, e14, hf⟩ := bd_elim hf
  refine r_Si (rest := [.int x5, .ref (B + 139)]) cx wo (mX1_nthBit l e14) csX1_81 rfl hl.1 rfl (Nat.le_of_ble_eq_true rfl) (hR_ok (by decide)) dX1_unpack_69 (fun H locs wo => ?_)
  obtain ⟨g15, hf⟩ := gd_elim hf
  obtain ⟨M16, e17, hf⟩ := lt_elim hf
  refine r_iast cx wo ad_139.1 ad_139.2.1 ad_139.2.2 (by rw [ln_139]; exact g15) dX1_unpack_72 (fun H locs wo => ?_)
  rw [← e17] at wo
  refine lv_iload cx.1 cx.2.1 dX1_unpack_73 (lv_at hl 4 rfl) ?_
  refine lv_iconst (v := 1) cx.1 cx.2.1 dX1_unpack_75 (by decide) ?_
  refine lv_aload_n cx.1 cx.2.1 dX1_unpack_76 rfl (lv_at hl 2 rfl) ?_
  refine r_getR cx wo ad_115.1 ad_115.2.1 ad_115.2.2 fiX1_27 (fn_115_8 wo.2.2.2.1) (by decide) dX1_unpack_77 ?_
  refine lv_iload cx.1 cx.2.1 dX1_unpack_80 (lv_at hl 5 rfl) ?_
  obtain ⟨g18, hf⟩ := gd_elim hf
  refine r_iald cx wo ad_139.1 ad_139.2.1 ad_139.2.2 (by rw [ln_139]; exact g18) dX1_unpack_82 ?_
  refine lv_ishl cx.1 cx.2.1 dX1_unpack_83 ?_
  refine lv_iconst (v := (-1)) cx.1 cx.2.1 dX1_unpack_84 (by decide) ?_
  refine lv_ixor cx.1 cx.2.1 dX1_unpack_85 ?_
  refine lv_iand cx.1 cx.2.1 dX1_unpack_86 ?_
  obtain ⟨y19, e20, hf⟩ := lt_elim hf
  refine r_topi e20 ?_
  refine lv_istore (lv' := [(4, .int y19), (2, .int y11), (6, .int s0), (0, .ref (B + 115)), (3, .int x3), (5, .int x5)]) cx.1 cx.2.1 dX1_unpack_87 hl (by decide) rfl (fun ls hl => ?_)
  obtain ⟨y21, e22, hf⟩ := lt_elim hf
  refine lv_iinc (v := y21) (lv' := [(5, .int y21), (4, .int y19), (2, .int y11), (6, .int s0), (0, .ref (B + 115)), (3, .int x3)]) cx.1 cx.2.1 dX1_unpack_89 hl (k := 5) rfl (by rw [e22]; rfl) (by decide) rfl (fun ls hl => ?_)
  refine lv_goto (tgt := 20) cx.1 cx.2.1 dX1_unpack_92 (by decide) ?_
  exact hk20 _ _ _ _ _ _ hf _ _ _ wo (lv_sub hl [4, 2, 5, 1, 0] rfl)
set_option maxHeartbeats 1000000 in
set_option maxRecDepth 10000 in
theorem wX1_unpack_20 (cx : Cx p s m args c cX1_unpack 7 RX1 G) (hr : meth.sig.returnType = none) (hlk : meth.locks = false) : ∀ (n : Nat) (x2 : Int32) (x3 : Int32) (x4 : Int32) (x5 : Int32)  (M : Mem) (q : Mem), fX1_unpack_20 n x2 x3 x4 x5 M = some q → ∀ (H : Heap) (locs : List Loc) (ls : Array Slot), Wo Ph G B 205 s M H locs → lv_has ls 7 [(0, .ref (B + 115)), (2, .int x2), (3, .int x3), (4, .int x4), (5, .int x5)] → W p l e (rmN (3)) s m args below meth c H locs 0 0 (MQ below (QcV Ph G B 205 q) args s 0 0 (fr B)) (F0 m 20 ls []) := by
  intro n
  induction n with
  | zero =>
    intro x2 x3 x4 x5 M q hf H locs ls wo hl
    have hf : none = some q := hf
    cases hf
  | succ n ih =>
    intro x2 x3 x4 x5 M q hf H locs ls wo hl
    rw [fX1_unpack_20] at hf
    refine lv_iload cx.1 cx.2.1 dX1_unpack_20 (lv_at hl 4 rfl) ?_
    refine lv_aload_n cx.1 cx.2.1 dX1_unpack_22 rfl (lv_at hl 0 rfl) ?_
    refine r_getI cx wo ad_115.1 ad_115.2.1 ad_115.2.2 fiX1_9 dX1_unpack_23 ?_
    refine lv_icmp_ge (tgt := 95) cx.1 cx.2.1 dX1_unpack_26 (by decide) (fun c5 => ?_) (fun c5 => ?_)
    · rw [if_pos c5] at hf
      have hq := Option.some.inj hf
      subst hq
      exact r_vret cx wo hr hlk dX1_unpack_95
    · rw [if_neg c5] at hf
      refine lv_iload_n cx.1 cx.2.1 dX1_unpack_29 rfl (lv_at hl 2 rfl) ?_
      refine lv_aload_n cx.1 cx.2.1 dX1_unpack_30 rfl (lv_at hl 0 rfl) ?_
      refine r_getI cx wo ad_115.1 ad_115.2.1 ad_115.2.2 fiX1_9 dX1_unpack_31 ?_
      refine lv_iload cx.1 cx.2.1 dX1_unpack_34 (lv_at hl 4 rfl) ?_
      refine lv_isub cx.1 cx.2.1 dX1_unpack_36 ?_
      obtain ⟨g6, hf⟩ := gd_elim hf
      refine lv_idiv cx.1 cx.2.1 dX1_unpack_37 g6 ?_
      obtain ⟨y7, e8, hf⟩ := lt_elim hf
      refine r_topi e8 ?_
      refine lv_istore_n (lv' := [(3, .int y7), (0, .ref (B + 115)), (2, .int x2), (4, .int x4), (5, .int x5)]) cx.1 cx.2.1 dX1_unpack_38 rfl hl (by decide) rfl (fun ls hl => ?_)
      refine lv_iload_n cx.1 cx.2.1 dX1_unpack_39 rfl (lv_at hl 0 rfl) ?_
      refine lv_if_le (tgt := 49) cx.1 cx.2.1 dX1_unpack_40 (by decide) (fun c9 => ?_) (fun c9 => ?_)
      · rw [if_pos c9] at hf
        refine lv_iconst (v := 0) cx.1 cx.2.1 dX1_unpack_49 (by decide) ?_
        exact wX1_unpack_50 cx hr hlk ih _ _ _ _ _ _ _ hf _ _ _ wo (lv_sub hl [1, 2, 0, 3, 4] rfl)
      · rw [if_neg c9] at hf
        refine lv_iload_n cx.1 cx.2.1 dX1_unpack_43 rfl (lv_at hl 2 rfl) ?_
        refine lv_iload_n cx.1 cx.2.1 dX1_unpack_44 rfl (lv_at hl 0 rfl) ?_
        obtain ⟨g10, hf⟩ := gd_elim hf
        refine lv_idiv cx.1 cx.2.1 dX1_unpack_45 g10 ?_
        refine lv_goto (tgt := 50) cx.1 cx.2.1 dX1_unpack_46 (by decide) ?_
        exact wX1_unpack_50 cx hr hlk ih _ _ _ _ _ _ _ hf _ _ _ wo (lv_sub hl [1, 2, 0, 3, 4] rfl)
set_option maxHeartbeats 1000000 in
set_option maxRecDepth 10000 in
theorem mX1_unpack (l : Launch) {G : GG} {B : Nat} {x1 : Int32}  {M : Mem} {q : Mem} (hf : fX1_unpack x1 M = some q) : Met l yX1_unpack (wsG yX1_unpack cX1_unpack 7 none) (rmN (3)) (PcW Ph G B 205 M [.ref (B + 115), .int x1]) (QcV Ph G B 205 q) 0 0 (fr B) := by
  refine mk_Met (own := RX1) rfl rfl (Nat.le_of_ble_eq_true rfl) ?_
  intro p e s m below meth c ls cx hr hlk wo hl
  have hl : lv_has ls 7 [(0, .ref (B + 115)), (1, .int x1)] := hl
  unfold fX1_unpack at hf
  refine lv_iload_n cx.1 cx.2.1 dX1_unpack_0 rfl (lv_at hl 1 rfl) ?_
  refine lv_istore_n (lv' := [(2, .int x1), (0, .ref (B + 115)), (1, .int x1)]) cx.1 cx.2.1 dX1_unpack_1 rfl hl (by decide) rfl (fun ls hl => ?_)
  refine lv_aload_n cx.1 cx.2.1 dX1_unpack_2 rfl (lv_at hl 1 rfl) ?_
  refine r_getI cx wo ad_115.1 ad_115.2.1 ad_115.2.2 fiX1_37 dX1_unpack_3 ?_
  obtain ⟨y1, e2, hf⟩ := lt_elim hf
  refine r_topi e2 ?_
  refine lv_istore_n (lv' := [(3, .int y1), (2, .int x1), (0, .ref (B + 115)), (1, .int x1)]) cx.1 cx.2.1 dX1_unpack_6 rfl hl (by decide) rfl (fun ls hl => ?_)
  refine lv_iconst (v := 1) cx.1 cx.2.1 dX1_unpack_7 (by decide) ?_
  refine lv_aload_n cx.1 cx.2.1 dX1_unpack_8 rfl (lv_at hl 2 rfl) ?_
  refine r_getI cx wo ad_115.1 ad_115.2.1 ad_115.2.2 fiX1_9 dX1_unpack_9 ?_
  refine lv_ishl cx.1 cx.2.1 dX1_unpack_12 ?_
  refine lv_iconst (v := 1) cx.1 cx.2.1 dX1_unpack_13 (by decide) ?_
  refine lv_isub cx.1 cx.2.1 dX1_unpack_14 ?_
  obtain ⟨y3, e4, hf⟩ := lt_elim hf
  refine r_topi e4 ?_
  refine lv_istore (lv' := [(4, .int y3), (3, .int y1), (2, .int x1), (0, .ref (B + 115)), (1, .int x1)]) cx.1 cx.2.1 dX1_unpack_15 hl (by decide) rfl (fun ls hl => ?_)
  refine lv_iconst (v := 0) cx.1 cx.2.1 dX1_unpack_17 (by decide) ?_
  refine lv_istore (lv' := [(5, .int 0), (4, .int y3), (3, .int y1), (2, .int x1), (0, .ref (B + 115)), (1, .int x1)]) cx.1 cx.2.1 dX1_unpack_18 hl (by decide) rfl (fun ls hl => ?_)
  exact wX1_unpack_20 cx hr hlk _ _ _ _ _ _ _ hf _ _ _ wo (lv_sub hl [4, 3, 2, 1, 0] rfl)
set_option maxHeartbeats 1000000 in
set_option maxRecDepth 10000 in
theorem wX1_findSets_142 (cx : Cx p s m args c cX1_findSets 3 RX1 G) (hr : meth.sig.returnType = none) (hlk : meth.locks = false) {k17 : Int32 → Mem → Option (Mem)} (hk17 : ∀ (x1 : Int32)  (M : Mem) (q : Mem), k17 x1 M = some q → ∀ (H : Heap) (locs : List Loc) (ls : Array Slot), Wo Ph G B 205 s M H locs → lv_has ls 3 [(0, .ref (B + 115)), (1, .int x1)] → W p l e (rmN (4)) s m args below meth c H locs 0 0 (MQ below (QcV Ph G B 205 q) args s 0 0 (fr B)) (F0 m 17 ls [])) : ∀ (x1 : Int32) (x2 : Int32) (s0 : Int32)  (M : Mem) (q : Mem), fX1_findSets_142 k17 x1 x2 s0 M = some q → ∀ (H : Heap) (locs : List Loc) (ls : Array Slot), Wo Ph G B 205 s M H locs → lv_has ls 3 [(0, .ref (B + 115)), (1, .int x1), (2, .int x2)] → W p l e (rmN (4)) s m args below meth c H locs 0 0 (MQ below (QcV Ph G B 205 q) args s 0 0 (fr B)) (F0 m 142 ls [.int s0, .ref (B + 115)]) := by
  intro x1 x2 s0 M q hf H locs ls wo hl
  unfold fX1_findSets_142 at hf
  obtain ⟨M33, e34, hf⟩ := lt_elim hf
  refine r_putI cx wo ad_115.1 ad_115.2.1 ad_115.2.2 fpX1_52 dX1_findSets_142 (fun H locs wo => ?_)
  rw [← e34] at wo
  refine lv_aload_n cx.1 cx.2.1 dX1_findSets_145 rfl (lv_at hl 0 rfl) ?_
  refine lv_aload_n cx.1 cx.2.1 dX1_findSets_146 rfl (lv_at hl 0 rfl) ?_
  refine r_getI cx wo ad_115.1 ad_115.2.1 ad_115.2.2 fiX1_49 dX1_findSets_147 ?_
  refine lv_iload_n cx.1 cx.2.1 dX1_findSets_150 rfl (lv_at hl 2 rfl) ?_
  refine r_mmax cx hl.1 mmX1_67 (by decide) (Nat.le_of_ble_eq_true rfl) (Nat.zero_le _) (Nat.zero_le _) dX1_findSets_151 ?_
  obtain ⟨M35, e36, hf⟩ := lt_elim hf
  refine r_putI cx wo ad_115.1 ad_115.2.1 ad_115.2.2 fpX1_49 dX1_findSets_154 (fun H locs wo => ?_)
  rw [← e36] at wo
  obtain ⟨y37, e38, hf⟩ := lt_elim hf
  refine lv_iinc (v := y37) (lv' := [(1, .int y37), (0, .ref (B + 115)), (2, .int x2)]) cx.1 cx.2.1 dX1_findSets_157 hl (k := 1) rfl (by rw [e38]; rfl) (by decide) rfl (fun ls hl => ?_)
  refine lv_goto (tgt := 17) cx.1 cx.2.1 dX1_findSets_160 (by decide) ?_
  exact hk17 _ _ _ hf _ _ _ wo (lv_sub hl [1, 0] rfl)
set_option maxHeartbeats 1000000 in
set_option maxRecDepth 10000 in
theorem wX1_findSets_55 (cx : Cx p s m args c cX1_findSets 3 RX1 G) (hr : meth.sig.returnType = none) (hlk : meth.locks = false) {k17 : Int32 → Mem → Option (Mem)} (hk17 : ∀ (x1 : Int32)  (M : Mem) (q : Mem), k17 x1 M = some q → ∀ (H : Heap) (locs : List Loc) (ls : Array Slot), Wo Ph G B 205 s M H locs → lv_has ls 3 [(0, .ref (B + 115)), (1, .int x1)] → W p l e (rmN (4)) s m args below meth c H locs 0 0 (MQ below (QcV Ph G B 205 q) args s 0 0 (fr B)) (F0 m 17 ls [])) : ∀ (n : Nat) (x1 : Int32) (x2 : Int32)  (M : Mem) (q : Mem), fX1_findSets_55 k17 n x1 x2 M = some q → ∀ (H : Heap) (locs : List Loc) (ls : Array Slot), Wo Ph G B 205 s M H locs → lv_has ls 3 [(0, .ref (B + 115)), (1, .int x1), (2, .int x2)] → W p l e (rmN (4)) s m args below meth c H locs 0 0 (MQ below (QcV Ph G B 205 q) args s 0 0 (fr B)) (F0 m 55 ls []) := by
  intro n
  induction n with
  | zero =>
    intro x1 x2 M q hf H locs ls wo hl
    have hf : none = some q := hf
    cases hf
  | succ n ih =>
    intro x1 x2 M q hf H locs ls wo hl
    rw [fX1_findSets_55] at hf
    refine lv_iload_n cx.1 cx.2.1 dX1_findSets_55 rfl (lv_at hl 2 rfl) ?_
    refine lv_aload_n cx.1 cx.2.1 dX1_findSets_56 rfl (lv_at hl 0 rfl) ?_
    refine r_getI cx wo ad_115.1 ad_115.2.1 ad_115.2.2 fiX1_9 dX1_findSets_57 ?_
    refine lv_icmp_ge (tgt := 86) cx.1 cx.2.1 dX1_findSets_60 (by decide) (fun c18 => ?_) (fun c18 => ?_)
    · rw [if_pos c18] at hf
      refine lv_aload_n cx.1 cx.2.1 dX1_findSets_86 rfl (lv_at hl 0 rfl) ?_
      refine lv_dup cx.1 cx.2.1 dX1_findSets_87 rfl ?_
      refine r_getI cx wo ad_115.1 ad_115.2.1 ad_115.2.2 fiX1_46 dX1_findSets_88 ?_
      refine lv_iconst (v := 1) cx.1 cx.2.1 dX1_findSets_91 (by decide) ?_
      refine lv_iadd cx.1 cx.2.1 dX1_findSets_92 ?_
      obtain ⟨M19, e20, hf⟩ := lt_elim hf
      refine r_putI cx wo ad_115.1 ad_115.2.1 ad_115.2.2 fpX1_46 dX1_findSets_93 (fun H locs wo => ?_)
      rw [← e20] at wo
      refine lv_aload_n cx.1 cx.2.1 dX1_findSets_96 rfl (lv_at hl 0 rfl) ?_
      refine r_getR cx wo ad_115.1 ad_115.2.1 ad_115.2.2 fiX1_27 (fn_115_8 wo.2.2.2.1) (by decide) dX1_findSets_97 ?_
      refine lv_aload_n cx.1 cx.2.1 dX1_findSets_100 rfl (lv_at hl 0 rfl) ?_
      refine r_getI cx wo ad_115.1 ad_115.2.1 ad_115.2.2 fiX1_9 dX1_findSets_101 ?_
      obtain ⟨q21, e22, hf⟩ := bd_elim hf
      refine r_Si (rest := []) cx wo (mX1_pairsOf l ad_139 e22) csX1_63 rfl hl.1 rfl (Nat.le_of_ble_eq_true rfl) (hR_ok (by decide)) dX1_findSets_104 (fun H locs wo => ?_)
      refine lv_istore_n (lv' := [(2, .int q21.1), (0, .ref (B + 115)), (1, .int x1)]) cx.1 cx.2.1 dX1_findSets_107 rfl hl (by decide) rfl (fun ls hl => ?_)
      refine lv_aload_n cx.1 cx.2.1 dX1_findSets_108 rfl (lv_at hl 1 rfl) ?_
      refine lv_iload_n cx.1 cx.2.1 dX1_findSets_109 rfl (lv_at hl 0 rfl) ?_
      refine lv_aload_n cx.1 cx.2.1 dX1_findSets_110 rfl (lv_at hl 1 rfl) ?_
      refine r_getI cx wo ad_115.1 ad_115.2.1 ad_115.2.2 fiX1_49 dX1_findSets_111 ?_
      refine lv_icmp_le (tgt := 121) cx.1 cx.2.1 dX1_findSets_114 (by decide) (fun c23 => ?_) (fun c23 => ?_)
      · rw [if_pos c23] at hf
        refine lv_iload_n cx.1 cx.2.1 dX1_findSets_121 rfl (lv_at hl 0 rfl) ?_
        refine lv_aload_n cx.1 cx.2.1 dX1_findSets_122 rfl (lv_at hl 1 rfl) ?_
        refine r_getI cx wo ad_115.1 ad_115.2.1 ad_115.2.2 fiX1_49 dX1_findSets_123 ?_
        refine lv_icmp_ne (tgt := 138) cx.1 cx.2.1 dX1_findSets_126 (by decide) (fun c24 => ?_) (fun c24 => ?_)
        · rw [if_neg c24] at hf
          refine lv_aload_n cx.1 cx.2.1 dX1_findSets_138 rfl (lv_at hl 1 rfl) ?_
          refine r_getI cx wo ad_115.1 ad_115.2.1 ad_115.2.2 fiX1_52 dX1_findSets_139 ?_
          exact wX1_findSets_142 cx hr hlk hk17 _ _ _ _ _ hf _ _ _ wo (lv_sub hl [1, 2, 0] rfl)
        · rw [if_pos c24] at hf
          refine lv_aload_n cx.1 cx.2.1 dX1_findSets_129 rfl (lv_at hl 1 rfl) ?_
          refine r_getI cx wo ad_115.1 ad_115.2.1 ad_115.2.2 fiX1_52 dX1_findSets_130 ?_
          refine lv_iconst (v := 1) cx.1 cx.2.1 dX1_findSets_133 (by decide) ?_
          refine lv_iadd cx.1 cx.2.1 dX1_findSets_134 ?_
          refine lv_goto (tgt := 142) cx.1 cx.2.1 dX1_findSets_135 (by decide) ?_
          exact wX1_findSets_142 cx hr hlk hk17 _ _ _ _ _ hf _ _ _ wo (lv_sub hl [1, 2, 0] rfl)
      · rw [if_neg c23] at hf
        refine lv_iconst (v := 1) cx.1 cx.2.1 dX1_findSets_117 (by decide) ?_
        refine lv_goto (tgt := 142) cx.1 cx.2.1 dX1_findSets_118 (by decide) ?_
        exact wX1_findSets_142 cx hr hlk hk17 _ _ _ _ _ hf _ _ _ wo (lv_sub hl [1, 2, 0] rfl)
    · rw [if_neg c18] at hf
      refine lv_aload_n cx.1 cx.2.1 dX1_findSets_63 rfl (lv_at hl 0 rfl) ?_
      refine r_getR cx wo ad_115.1 ad_115.2.1 ad_115.2.2 fiX1_17 (fn_115_5 wo.2.2.2.1) (by decide) dX1_findSets_64 ?_
      refine lv_aload_n cx.1 cx.2.1 dX1_findSets_67 rfl (lv_at hl 0 rfl) ?_
      refine r_getI cx wo ad_115.1 ad_115.2.1 ad_115.2.2 fiX1_46 dX1_findSets_68 ?_
      obtain ⟨g25, hf⟩ := gd_elim hf
      have hm26 := inb_lt g25
      refine r_aald4 cx wo ad_116.1 ad_116.2.1 ad_116.2.2 (by rw [ln_116]; exact g25) (mt_fn wo.2.2.2.1 hm26) (by omega) dX1_findSets_71 ?_
      refine lv_iload_n cx.1 cx.2.1 dX1_findSets_72 rfl (lv_at hl 2 rfl) ?_
      refine lv_aload_n cx.1 cx.2.1 dX1_findSets_73 rfl (lv_at hl 0 rfl) ?_
      refine r_getR cx wo ad_115.1 ad_115.2.1 ad_115.2.2 fiX1_27 (fn_115_8 wo.2.2.2.1) (by decide) dX1_findSets_74 ?_
      refine lv_iload_n cx.1 cx.2.1 dX1_findSets_77 rfl (lv_at hl 2 rfl) ?_
      obtain ⟨g27, hf⟩ := gd_elim hf
      refine r_iald cx wo ad_139.1 ad_139.2.1 ad_139.2.2 (by rw [ln_139]; exact g27) dX1_findSets_78 ?_
      obtain ⟨g28, hf⟩ := gd_elim hf
      obtain ⟨M29, e30, hf⟩ := lt_elim hf
      refine r_iast cx wo (mtA0 hm26).1 (mtA0 hm26).2.1 (mtA0 hm26).2.2 (by rw [(mtL0 hm26)]; exact g28) dX1_findSets_79 (fun H locs wo => ?_)
      rw [← e30] at wo
      obtain ⟨y31, e32, hf⟩ := lt_elim hf
      refine lv_iinc (v := y31) (lv' := [(2, .int y31), (0, .ref (B + 115)), (1, .int x1)]) cx.1 cx.2.1 dX1_findSets_80 hl (k := 2) rfl (by rw [e32]; rfl) (by decide) rfl (fun ls hl => ?_)
      refine lv_goto (tgt := 55) cx.1 cx.2.1 dX1_findSets_83 (by decide) ?_
      exact ih _ _ _ _ hf _ _ _ wo (lv_sub hl [1, 2, 0] rfl)
set_option maxHeartbeats 1000000 in
set_option maxRecDepth 10000 in
theorem wX1_findSets_17 (cx : Cx p s m args c cX1_findSets 3 RX1 G) (hr : meth.sig.returnType = none) (hlk : meth.locks = false) : ∀ (n : Nat) (x1 : Int32)  (M : Mem) (q : Mem), fX1_findSets_17 n x1 M = some q → ∀ (H : Heap) (locs : List Loc) (ls : Array Slot), Wo Ph G B 205 s M H locs → lv_has ls 3 [(0, .ref (B + 115)), (1, .int x1)] → W p l e (rmN (4)) s m args below meth c H locs 0 0 (MQ below (QcV Ph G B 205 q) args s 0 0 (fr B)) (F0 m 17 ls []) := by
  intro n
  induction n with
  | zero =>
    intro x1 M q hf H locs ls wo hl
    have hf : none = some q := hf
    cases hf
  | succ n ih =>
    intro x1 M q hf H locs ls wo hl
    rw [fX1_findSets_17] at hf
    refine lv_iload_n cx.1 cx.2.1 dX1_findSets_17 rfl (lv_at hl 1 rfl) ?_
    refine lv_aload_n cx.1 cx.2.1 dX1_findSets_18 rfl (lv_at hl 0 rfl) ?_
    refine r_getI cx wo ad_115.1 ad_115.2.1 ad_115.2.2 fiX1_37 dX1_findSets_19 ?_
    refine lv_icmp_ge (tgt := 163) cx.1 cx.2.1 dX1_findSets_22 (by decide) (fun c7 => ?_) (fun c7 => ?_)
    · rw [if_pos c7] at hf
      have hq := Option.some.inj hf
      subst hq
      exact r_vret cx wo hr hlk dX1_findSets_163
    · rw [if_neg c7] at hf
      refine lv_aload_n cx.1 cx.2.1 dX1_findSets_25 rfl (lv_at hl 0 rfl) ?_
      refine lv_iload_n cx.1 cx.2.1 dX1_findSets_26 rfl (lv_at hl 1 rfl) ?_
      obtain ⟨q8, e9, hf⟩ := bd_elim hf
      refine r_Vv (rest := []) cx wo (mX1_unpack l e9) cvX1_55 rfl ad_115.1 ad_115.2.1 ad_115.2.2 rfl rfl hl.1 rfl (Nat.le_of_ble_eq_true rfl) (hR_ok (by decide)) dX1_findSets_27 (fun H locs wo => ?_)
      refine lv_aload_n cx.1 cx.2.1 dX1_findSets_30 rfl (lv_at hl 0 rfl) ?_
      refine r_getI cx wo ad_115.1 ad_115.2.1 ad_115.2.2 fiX1_46 dX1_findSets_31 ?_
      refine lv_bipush (v := 20) cx.1 cx.2.1 dX1_findSets_34 (by decide) ?_
      refine lv_icmp_ge (tgt := 157) cx.1 cx.2.1 dX1_findSets_36 (by decide) (fun c10 => ?_) (fun c10 => ?_)
      · rw [if_pos c10] at hf
        obtain ⟨y11, e12, hf⟩ := lt_elim hf
        refine lv_iinc (v := y11) (lv' := [(1, .int y11), (0, .ref (B + 115))]) cx.1 cx.2.1 dX1_findSets_157 hl (k := 1) rfl (by rw [e12]; rfl) (by decide) rfl (fun ls hl => ?_)
        refine lv_goto (tgt := 17) cx.1 cx.2.1 dX1_findSets_160 (by decide) ?_
        exact ih _ _ _ hf _ _ _ wo (lv_sub hl [1, 0] rfl)
      · rw [if_neg c10] at hf
        refine lv_aload_n cx.1 cx.2.1 dX1_findSets_39 rfl (lv_at hl 0 rfl) ?_
        refine r_getR cx wo ad_115.1 ad_115.2.1 ad_115.2.2 fiX1_27 (fn_115_8 wo.2.2.2.1) (by decide) dX1_findSets_40 ?_
        refine lv_aload_n cx.1 cx.2.1 dX1_findSets_43 rfl (lv_at hl 0 rfl) ?_
        refine r_getI cx wo ad_115.1 ad_115.2.1 ad_115.2.2 fiX1_9 dX1_findSets_44 ?_
        obtain ⟨q13, e14, hf⟩ := bd_elim hf
        refine r_Si (rest := []) cx wo (mX1_isLawful l ad_139 e14) csX1_59 rfl hl.1 rfl (Nat.le_of_ble_eq_true rfl) (hR_ok (by decide)) dX1_findSets_47 (fun H locs wo => ?_)
        refine lv_if_eq (tgt := 157) cx.1 cx.2.1 dX1_findSets_50 (by decide) (fun c15 => ?_) (fun c15 => ?_)
        · rw [if_pos c15] at hf
          obtain ⟨y16, e17, hf⟩ := lt_elim hf
          refine lv_iinc (v := y16) (lv' := [(1, .int y16), (0, .ref (B + 115))]) cx.1 cx.2.1 dX1_findSets_157 hl (k := 1) rfl (by rw [e17]; rfl) (by decide) rfl (fun ls hl => ?_)
          refine lv_goto (tgt := 17) cx.1 cx.2.1 dX1_findSets_160 (by decide) ?_
          exact ih _ _ _ hf _ _ _ wo (lv_sub hl [1, 0] rfl)
        · rw [if_neg c15] at hf
          refine lv_iconst (v := 0) cx.1 cx.2.1 dX1_findSets_53 (by decide) ?_
          refine lv_istore_n (lv' := [(2, .int 0), (0, .ref (B + 115)), (1, .int x1)]) cx.1 cx.2.1 dX1_findSets_54 rfl hl (by decide) rfl (fun ls hl => ?_)
          exact wX1_findSets_55 cx hr hlk ih _ _ _ _ _ hf _ _ _ wo (lv_sub hl [1, 2, 0] rfl)
set_option maxHeartbeats 1000000 in
set_option maxRecDepth 10000 in
theorem mX1_findSets (l : Launch) {G : GG} {B : Nat}   {M : Mem} {q : Mem} (hf : fX1_findSets  M = some q) : Met l yX1_findSets (wsG yX1_findSets cX1_findSets 3 none) (rmN (4)) (PcW Ph G B 205 M [.ref (B + 115)]) (QcV Ph G B 205 q) 0 0 (fr B) := by
  refine mk_Met (own := RX1) rfl rfl (Nat.le_of_ble_eq_true rfl) ?_
  intro p e s m below meth c ls cx hr hlk wo hl
  have hl : lv_has ls 3 [(0, .ref (B + 115))] := hl
  unfold fX1_findSets at hf
  refine lv_aload_n cx.1 cx.2.1 dX1_findSets_0 rfl (lv_at hl 0 rfl) ?_
  refine lv_iconst (v := 0) cx.1 cx.2.1 dX1_findSets_1 (by decide) ?_
  obtain ⟨M1, e2, hf⟩ := lt_elim hf
  refine r_putI cx wo ad_115.1 ad_115.2.1 ad_115.2.2 fpX1_46 dX1_findSets_2 (fun H locs wo => ?_)
  rw [← e2] at wo
  refine lv_aload_n cx.1 cx.2.1 dX1_findSets_5 rfl (lv_at hl 0 rfl) ?_
  refine lv_iconst (v := 0) cx.1 cx.2.1 dX1_findSets_6 (by decide) ?_
  obtain ⟨M3, e4, hf⟩ := lt_elim hf
  refine r_putI cx wo ad_115.1 ad_115.2.1 ad_115.2.2 fpX1_49 dX1_findSets_7 (fun H locs wo => ?_)
  rw [← e4] at wo
  refine lv_aload_n cx.1 cx.2.1 dX1_findSets_10 rfl (lv_at hl 0 rfl) ?_
  refine lv_iconst (v := 0) cx.1 cx.2.1 dX1_findSets_11 (by decide) ?_
  obtain ⟨M5, e6, hf⟩ := lt_elim hf
  refine r_putI cx wo ad_115.1 ad_115.2.1 ad_115.2.2 fpX1_52 dX1_findSets_12 (fun H locs wo => ?_)
  rw [← e6] at wo
  refine lv_iconst (v := 0) cx.1 cx.2.1 dX1_findSets_15 (by decide) ?_
  refine lv_istore_n (lv' := [(1, .int 0), (0, .ref (B + 115))]) cx.1 cx.2.1 dX1_findSets_16 rfl hl (by decide) rfl (fun ls hl => ?_)
  exact wX1_findSets_17 cx hr hlk _ _ _ _ hf _ _ _ wo (lv_sub hl [1, 0] rfl)
set_option maxHeartbeats 1000000 in
set_option maxRecDepth 10000 in
theorem wX1_numberOf_71 (cx : Cx p s m args c cX1_numberOf 6 RX1 G) (hr : meth.sig.returnType = (some .int)) (hlk : meth.locks = false) : ∀ (x2 : Int32)  (M : Mem) (q : Int32 × Mem), fX1_numberOf_71 x2 M = some q → ∀ (H : Heap) (locs : List Loc) (ls : Array Slot), Wo Ph G B 205 s M H locs → lv_has ls 6 [(0, .ref (B + 115)), (2, .int x2)] → W p l e (rmN (3)) s m args below meth c H locs 0 0 (MQ below (QcI Ph G B 205 q.1 q.2) args s 0 0 (fr B)) (F0 m 71 ls []) := by
  intro x2 M q hf H locs ls wo hl
  unfold fX1_numberOf_71 at hf
  refine lv_iload_n cx.1 cx.2.1 dX1_numberOf_71 rfl (lv_at hl 1 rfl) ?_
  refine lv_if_lt (tgt := 87) cx.1 cx.2.1 dX1_numberOf_72 (by decide) (fun c16 => ?_) (fun c16 => ?_)
  · rw [if_pos c16] at hf
    refine lv_iconst (v := 0) cx.1 cx.2.1 dX1_numberOf_87 (by decide) ?_
    have hq := Option.some.inj hf
    subst hq
    exact r_iret cx wo hr hlk dX1_numberOf_88
  · rw [if_neg c16] at hf
    refine lv_iload_n cx.1 cx.2.1 dX1_numberOf_75 rfl (lv_at hl 1 rfl) ?_
    refine lv_aload_n cx.1 cx.2.1 dX1_numberOf_76 rfl (lv_at hl 0 rfl) ?_
    refine r_getI cx wo ad_115.1 ad_115.2.1 ad_115.2.2 fiX1_37 dX1_numberOf_77 ?_
    refine lv_icmp_ge (tgt := 87) cx.1 cx.2.1 dX1_numberOf_80 (by decide) (fun c17 => ?_) (fun c17 => ?_)
    · rw [if_pos c17] at hf
      refine lv_iconst (v := 0) cx.1 cx.2.1 dX1_numberOf_87 (by decide) ?_
      have hq := Option.some.inj hf
      subst hq
      exact r_iret cx wo hr hlk dX1_numberOf_88
    · rw [if_neg c17] at hf
      refine lv_iload_n cx.1 cx.2.1 dX1_numberOf_83 rfl (lv_at hl 1 rfl) ?_
      refine lv_goto (tgt := 88) cx.1 cx.2.1 dX1_numberOf_84 (by decide) ?_
      have hq := Option.some.inj hf
      subst hq
      exact r_iret cx wo hr hlk dX1_numberOf_88
set_option maxHeartbeats 1000000 in
set_option maxRecDepth 10000 in
theorem wX1_numberOf_14 (cx : Cx p s m args c cX1_numberOf 6 RX1 G) (hr : meth.sig.returnType = (some .int)) (hlk : meth.locks = false) : ∀ (n : Nat) (a1 : Nat) (x2 : Int32) (x3 : Int32) (x4 : Int32) (h1 : isI a1) (M : Mem) (q : Int32 × Mem), fX1_numberOf_14 n a1 x2 x3 x4 M = some q → ∀ (H : Heap) (locs : List Loc) (ls : Array Slot), Wo Ph G B 205 s M H locs → lv_has ls 6 [(0, .ref (B + 115)), (1, .ref (B + a1)), (2, .int x2), (3, .int x3), (4, .int x4)] → W p l e (rmN (3)) s m args below meth c H locs 0 0 (MQ below (QcI Ph G B 205 q.1 q.2) args s 0 0 (fr B)) (F0 m 14 ls []) := by
  intro n
  induction n with
  | zero =>
    intro a1 x2 x3 x4 h1 M q hf H locs ls wo hl
    have hf : none = some q := hf
    cases hf
  | succ n ih =>
    intro a1 x2 x3 x4 h1 M q hf H locs ls wo hl
    rw [fX1_numberOf_14] at hf
    refine lv_iload cx.1 cx.2.1 dX1_numberOf_14 (lv_at hl 4 rfl) ?_
    refine lv_aload_n cx.1 cx.2.1 dX1_numberOf_16 rfl (lv_at hl 0 rfl) ?_
    refine r_getI cx wo ad_115.1 ad_115.2.1 ad_115.2.2 fiX1_9 dX1_numberOf_17 ?_
    refine lv_icmp_ge (tgt := 71) cx.1 cx.2.1 dX1_numberOf_20 (by decide) (fun c3 => ?_) (fun c3 => ?_)
    · rw [if_pos c3] at hf
      exact wX1_numberOf_71 cx hr hlk _ _ _ hf _ _ _ wo (lv_sub hl [0, 2] rfl)
    · rw [if_neg c3] at hf
      refine lv_iload cx.1 cx.2.1 dX1_numberOf_23 (lv_at hl 4 rfl) ?_
      refine lv_aload_n cx.1 cx.2.1 dX1_numberOf_25 rfl (lv_at hl 1 rfl) ?_
      refine r_alen (v := Int32.ofNat (ln a1)) cx wo (h1).1 (h1).2.1 (h1).2.2 rfl dX1_numberOf_26 ?_
      refine lv_icmp_ge (tgt := 71) cx.1 cx.2.1 dX1_numberOf_27 (by decide) (fun c4 => ?_) (fun c4 => ?_)
      · rw [if_pos c4] at hf
        exact wX1_numberOf_71 cx hr hlk _ _ _ hf _ _ _ wo (lv_sub hl [0, 2] rfl)
      · rw [if_neg c4] at hf
        refine lv_iconst (v := 1) cx.1 cx.2.1 dX1_numberOf_30 (by decide) ?_
        refine lv_aload_n cx.1 cx.2.1 dX1_numberOf_31 rfl (lv_at hl 1 rfl) ?_
        refine lv_iload cx.1 cx.2.1 dX1_numberOf_32 (lv_at hl 4 rfl) ?_
        obtain ⟨g5, hf⟩ := gd_elim hf
        refine r_iald cx wo (h1).1 (h1).2.1 (h1).2.2 g5 dX1_numberOf_34 ?_
        refine lv_ishl cx.1 cx.2.1 dX1_numberOf_35 ?_
        obtain ⟨y6, e7, hf⟩ := lt_elim hf
        refine r_topi e7 ?_
        refine lv_istore (lv' := [(5, .int y6), (0, .ref (B + 115)), (1, .ref (B + a1)), (2, .int x2), (3, .int x3), (4, .int x4)]) cx.1 cx.2.1 dX1_numberOf_36 hl (by decide) rfl (fun ls hl => ?_)
        refine lv_iload_n cx.1 cx.2.1 dX1_numberOf_38 rfl (lv_at hl 3 rfl) ?_
        refine lv_aload_n cx.1 cx.2.1 dX1_numberOf_39 rfl (lv_at hl 1 rfl) ?_
        refine r_getI cx wo ad_115.1 ad_115.2.1 ad_115.2.2 fiX1_9 dX1_numberOf_40 ?_
        refine lv_iload cx.1 cx.2.1 dX1_numberOf_43 (lv_at hl 5 rfl) ?_
        refine lv_isub cx.1 cx.2.1 dX1_numberOf_45 ?_
        refine lv_imul cx.1 cx.2.1 dX1_numberOf_46 ?_
        refine lv_iload_n cx.1 cx.2.1 dX1_numberOf_47 rfl (lv_at hl 4 rfl) ?_
        refine lv_iload cx.1 cx.2.1 dX1_numberOf_48 (lv_at hl 0 rfl) ?_
        refine lv_iconst (v := 1) cx.1 cx.2.1 dX1_numberOf_50 (by decide) ?_
        refine lv_isub cx.1 cx.2.1 dX1_numberOf_51 ?_
        refine lv_iand cx.1 cx.2.1 dX1_numberOf_52 ?_
        obtain ⟨q8, e9, hf⟩ := bd_elim hf
        refine r_Si (rest := [.int (x2 * ((M.1 115 0) - x4))]) cx wo (mBC l e9) csX1_84 rfl hl.1 rfl (Nat.le_of_ble_eq_true rfl) (hR_ok (by decide)) dX1_numberOf_53 (fun H locs wo => ?_)
        refine lv_iadd cx.1 cx.2.1 dX1_numberOf_56 ?_
        obtain ⟨y10, e11, hf⟩ := lt_elim hf
        refine r_topi e11 ?_
        refine lv_istore_n (lv' := [(2, .int y10), (5, .int y6), (0, .ref (B + 115)), (1, .ref (B + a1)), (3, .int x3), (4, .int x4)]) cx.1 cx.2.1 dX1_numberOf_57 rfl hl (by decide) rfl (fun ls hl => ?_)
        refine lv_iload_n cx.1 cx.2.1 dX1_numberOf_58 rfl (lv_at hl 4 rfl) ?_
        refine lv_iload cx.1 cx.2.1 dX1_numberOf_59 (lv_at hl 1 rfl) ?_
        refine lv_iconst (v := (-1)) cx.1 cx.2.1 dX1_numberOf_61 (by decide) ?_
        refine lv_ixor cx.1 cx.2.1 dX1_numberOf_62 ?_
        refine lv_iand cx.1 cx.2.1 dX1_numberOf_63 ?_
        obtain ⟨y12, e13, hf⟩ := lt_elim hf
        refine r_topi e13 ?_
        refine lv_istore_n (lv' := [(3, .int y12), (2, .int y10), (5, .int y6), (0, .ref (B + 115)), (1, .ref (B + a1)), (4, .int x4)]) cx.1 cx.2.1 dX1_numberOf_64 rfl hl (by decide) rfl (fun ls hl => ?_)
        obtain ⟨y14, e15, hf⟩ := lt_elim hf
        refine lv_iinc (v := y14) (lv' := [(4, .int y14), (3, .int y12), (2, .int y10), (5, .int y6), (0, .ref (B + 115)), (1, .ref (B + a1))]) cx.1 cx.2.1 dX1_numberOf_65 hl (k := 5) rfl (by rw [e15]; rfl) (by decide) rfl (fun ls hl => ?_)
        refine lv_goto (tgt := 14) cx.1 cx.2.1 dX1_numberOf_68 (by decide) ?_
        exact ih _ _ _ _ h1 _ _ hf _ _ _ wo (lv_sub hl [4, 5, 2, 1, 0] rfl)
set_option maxHeartbeats 1000000 in
set_option maxRecDepth 10000 in
theorem mX1_numberOf (l : Launch) {G : GG} {B : Nat} {a1 : Nat} (h1 : isI a1) {M : Mem} {q : Int32 × Mem} (hf : fX1_numberOf a1 M = some q) : Met l yX1_numberOf (wsG yX1_numberOf cX1_numberOf 6 (some .int)) (rmN (3)) (PcW Ph G B 205 M [.ref (B + 115), .ref (B + a1)]) (QcI Ph G B 205 q.1 q.2) 0 0 (fr B) := by
  refine mk_Met (own := RX1) rfl rfl (Nat.le_of_ble_eq_true rfl) ?_
  intro p e s m below meth c ls cx hr hlk wo hl
  have hl : lv_has ls 6 [(0, .ref (B + 115)), (1, .ref (B + a1))] := hl
  unfold fX1_numberOf at hf
  refine lv_iconst (v := 0) cx.1 cx.2.1 dX1_numberOf_0 (by decide) ?_
  refine lv_istore_n (lv' := [(2, .int 0), (0, .ref (B + 115)), (1, .ref (B + a1))]) cx.1 cx.2.1 dX1_numberOf_1 rfl hl (by decide) rfl (fun ls hl => ?_)
  refine lv_iconst (v := 1) cx.1 cx.2.1 dX1_numberOf_2 (by decide) ?_
  refine lv_aload_n cx.1 cx.2.1 dX1_numberOf_3 rfl (lv_at hl 1 rfl) ?_
  refine r_getI cx wo ad_115.1 ad_115.2.1 ad_115.2.2 fiX1_9 dX1_numberOf_4 ?_
  refine lv_ishl cx.1 cx.2.1 dX1_numberOf_7 ?_
  refine lv_iconst (v := 1) cx.1 cx.2.1 dX1_numberOf_8 (by decide) ?_
  refine lv_isub cx.1 cx.2.1 dX1_numberOf_9 ?_
  obtain ⟨y1, e2, hf⟩ := lt_elim hf
  refine r_topi e2 ?_
  refine lv_istore_n (lv' := [(3, .int y1), (2, .int 0), (0, .ref (B + 115)), (1, .ref (B + a1))]) cx.1 cx.2.1 dX1_numberOf_10 rfl hl (by decide) rfl (fun ls hl => ?_)
  refine lv_iconst (v := 0) cx.1 cx.2.1 dX1_numberOf_11 (by decide) ?_
  refine lv_istore (lv' := [(4, .int 0), (3, .int y1), (2, .int 0), (0, .ref (B + 115)), (1, .ref (B + a1))]) cx.1 cx.2.1 dX1_numberOf_12 hl (by decide) rfl (fun ls hl => ?_)
  exact wX1_numberOf_14 cx hr hlk _ _ _ _ _ h1 _ _ hf _ _ _ wo (lv_sub hl [3, 4, 2, 1, 0] rfl)
set_option maxHeartbeats 1000000 in
set_option maxRecDepth 10000 in
theorem wX1_spreadFrom_15 (cx : Cx p s m args c cX1_spreadFrom 5 RX1 G) (hr : meth.sig.returnType = (some .int)) (hlk : meth.locks = false) {k4 : Int32 → Int32 → Int32 → Mem → Option (Int32 × Mem)} (hk4 : ∀ (x1 : Int32) (x2 : Int32) (x3 : Int32)  (M : Mem) (q : Int32 × Mem), k4 x1 x2 x3 M = some q → ∀ (H : Heap) (locs : List Loc) (ls : Array Slot), Wo Ph G B 205 s M H locs → lv_has ls 5 [(0, .ref (B + 115)), (1, .int x1), (2, .int x2), (3, .int x3)] → W p l e (rmN (4)) s m args below meth c H locs 0 0 (MQ below (QcI Ph G B 205 q.1 q.2) args s 0 0 (fr B)) (F0 m 4 ls [])) : ∀ (n : Nat) (x1 : Int32) (x2 : Int32) (x3 : Int32) (x4 : Int32)  (M : Mem) (q : Int32 × Mem), fX1_spreadFrom_15 k4 n x1 x2 x3 x4 M = some q → ∀ (H : Heap) (locs : List Loc) (ls : Array Slot), Wo Ph G B 205 s M H locs → lv_has ls 5 [(0, .ref (B + 115)), (1, .int x1), (2, .int x2), (3, .int x3), (4, .int x4)] → W p l e (rmN (4)) s m args below meth c H locs 0 0 (MQ below (QcI Ph G B 205 q.1 q.2) args s 0 0 (fr B)) (F0 m 15 ls []) := by
  intro n
  induction n with
  | zero =>
    intro x1 x2 x3 x4 M q hf H locs ls wo hl
    have hf : none = some q := hf
    cases hf
  | succ n ih =>
    intro x1 x2 x3 x4 M q hf H locs ls wo hl
    rw [fX1_spreadFrom_15] at hf
    refine lv_iload cx.1 cx.2.1 dX1_spreadFrom_15 (lv_at hl 4 rfl) ?_
    refine lv_aload_n cx.1 cx.2.1 dX1_spreadFrom_17 rfl (lv_at hl 0 rfl) ?_
    refine r_getI cx wo ad_115.1 ad_115.2.1 ad_115.2.2 fiX1_9 dX1_spreadFrom_18 ?_
    refine lv_icmp_ge (tgt := 51) cx.1 cx.2.1 dX1_spreadFrom_21 (by decide) (fun c2 => ?_) (fun c2 => ?_)
    · rw [if_pos c2] at hf
      refine lv_aload_n cx.1 cx.2.1 dX1_spreadFrom_51 rfl (lv_at hl 0 rfl) ?_
      refine lv_aload_n cx.1 cx.2.1 dX1_spreadFrom_52 rfl (lv_at hl 0 rfl) ?_
      refine r_getR cx wo ad_115.1 ad_115.2.1 ad_115.2.2 fiX1_30 (fn_115_9 wo.2.2.2.1) (by decide) dX1_spreadFrom_53 ?_
      obtain ⟨q3, e4, hf⟩ := bd_elim hf
      refine r_Vi (rest := []) cx wo (mX1_numberOf l ad_140 e4) cvX1_77 rfl ad_115.1 ad_115.2.1 ad_115.2.2 rfl rfl hl.1 rfl (Nat.le_of_ble_eq_true rfl) (hR_ok (by decide)) dX1_spreadFrom_56 (fun H locs wo => ?_)
      refine lv_istore (lv' := [(4, .int q3.1), (0, .ref (B + 115)), (1, .int x1), (2, .int x2), (3, .int x3)]) cx.1 cx.2.1 dX1_spreadFrom_59 hl (by decide) rfl (fun ls hl => ?_)
      refine lv_aload_n cx.1 cx.2.1 dX1_spreadFrom_61 rfl (lv_at hl 1 rfl) ?_
      refine r_getR cx wo ad_115.1 ad_115.2.1 ad_115.2.2 fiX1_20 (fn_115_6 wo.2.2.2.1) (by decide) dX1_spreadFrom_62 ?_
      refine lv_iload cx.1 cx.2.1 dX1_spreadFrom_65 (lv_at hl 0 rfl) ?_
      obtain ⟨g5, hf⟩ := gd_elim hf
      refine r_iald cx wo ad_137.1 ad_137.2.1 ad_137.2.2 (by rw [ln_137]; exact g5) dX1_spreadFrom_67 ?_
      refine lv_if_ge (tgt := 84) cx.1 cx.2.1 dX1_spreadFrom_68 (by decide) (fun c6 => ?_) (fun c6 => ?_)
      · rw [if_pos c6] at hf
        obtain ⟨y7, e8, hf⟩ := lt_elim hf
        refine lv_iinc (v := y7) (lv' := [(3, .int y7), (4, .int q3.1), (0, .ref (B + 115)), (1, .int x1), (2, .int x2)]) cx.1 cx.2.1 dX1_spreadFrom_84 hl (k := 4) rfl (by rw [e8]; rfl) (by decide) rfl (fun ls hl => ?_)
        refine lv_goto (tgt := 4) cx.1 cx.2.1 dX1_spreadFrom_87 (by decide) ?_
        exact hk4 _ _ _ _ _ hf _ _ _ wo (lv_sub hl [2, 3, 4, 0] rfl)
      · rw [if_neg c6] at hf
        refine lv_aload_n cx.1 cx.2.1 dX1_spreadFrom_71 rfl (lv_at hl 1 rfl) ?_
        refine r_getR cx wo ad_115.1 ad_115.2.1 ad_115.2.2 fiX1_20 (fn_115_6 wo.2.2.2.1) (by decide) dX1_spreadFrom_72 ?_
        refine lv_iload cx.1 cx.2.1 dX1_spreadFrom_75 (lv_at hl 0 rfl) ?_
        refine lv_iload_n cx.1 cx.2.1 dX1_spreadFrom_77 rfl (lv_at hl 2 rfl) ?_
        refine lv_iconst (v := 1) cx.1 cx.2.1 dX1_spreadFrom_78 (by decide) ?_
        refine lv_iadd cx.1 cx.2.1 dX1_spreadFrom_79 ?_
        obtain ⟨g9, hf⟩ := gd_elim hf
        obtain ⟨M10, e11, hf⟩ := lt_elim hf
        refine r_iast cx wo ad_137.1 ad_137.2.1 ad_137.2.2 (by rw [ln_137]; exact g9) dX1_spreadFrom_80 (fun H locs wo => ?_)
        rw [← e11] at wo
        obtain ⟨y12, e13, hf⟩ := lt_elim hf
        refine lv_iinc (v := y12) (lv' := [(2, .int y12), (4, .int q3.1), (0, .ref (B + 115)), (1, .int x1), (3, .int x3)]) cx.1 cx.2.1 dX1_spreadFrom_81 hl (k := 3) rfl (by rw [e13]; rfl) (by decide) rfl (fun ls hl => ?_)
        obtain ⟨y14, e15, hf⟩ := lt_elim hf
        refine lv_iinc (v := y14) (lv' := [(3, .int y14), (2, .int y12), (4, .int q3.1), (0, .ref (B + 115)), (1, .int x1)]) cx.1 cx.2.1 dX1_spreadFrom_84 hl (k := 4) rfl (by rw [e15]; rfl) (by decide) rfl (fun ls hl => ?_)
        refine lv_goto (tgt := 4) cx.1 cx.2.1 dX1_spreadFrom_87 (by decide) ?_
        exact hk4 _ _ _ _ _ hf _ _ _ wo (lv_sub hl [3, 4, 1, 0] rfl)
    · rw [if_neg c2] at hf
      refine lv_aload_n cx.1 cx.2.1 dX1_spreadFrom_24 rfl (lv_at hl 0 rfl) ?_
      refine r_getR cx wo ad_115.1 ad_115.2.1 ad_115.2.2 fiX1_30 (fn_115_9 wo.2.2.2.1) (by decide) dX1_spreadFrom_25 ?_
      refine lv_iload cx.1 cx.2.1 dX1_spreadFrom_28 (lv_at hl 4 rfl) ?_
      refine lv_aload_n cx.1 cx.2.1 dX1_spreadFrom_30 rfl (lv_at hl 0 rfl) ?_
      refine r_getR cx wo ad_115.1 ad_115.2.1 ad_115.2.2 fiX1_27 (fn_115_8 wo.2.2.2.1) (by decide) dX1_spreadFrom_31 ?_
      refine lv_aload_n cx.1 cx.2.1 dX1_spreadFrom_34 rfl (lv_at hl 0 rfl) ?_
      refine r_getR cx wo ad_115.1 ad_115.2.1 ad_115.2.2 fiX1_17 (fn_115_5 wo.2.2.2.1) (by decide) dX1_spreadFrom_35 ?_
      refine lv_iload_n cx.1 cx.2.1 dX1_spreadFrom_38 rfl (lv_at hl 3 rfl) ?_
      obtain ⟨g16, hf⟩ := gd_elim hf
      have hm17 := inb_lt g16
      refine r_aald4 cx wo ad_116.1 ad_116.2.1 ad_116.2.2 (by rw [ln_116]; exact g16) (mt_fn wo.2.2.2.1 hm17) (by omega) dX1_spreadFrom_39 ?_
      refine lv_iload cx.1 cx.2.1 dX1_spreadFrom_40 (lv_at hl 4 rfl) ?_
      obtain ⟨g18, hf⟩ := gd_elim hf
      refine r_iald cx wo (mtA0 hm17).1 (mtA0 hm17).2.1 (mtA0 hm17).2.2 (by rw [(mtL0 hm17)]; exact g18) dX1_spreadFrom_42 ?_
      obtain ⟨g19, hf⟩ := gd_elim hf
      refine r_iald cx wo ad_139.1 ad_139.2.1 ad_139.2.2 (by rw [ln_139]; exact g19) dX1_spreadFrom_43 ?_
      obtain ⟨g20, hf⟩ := gd_elim hf
      obtain ⟨M21, e22, hf⟩ := lt_elim hf
      refine r_iast cx wo ad_140.1 ad_140.2.1 ad_140.2.2 (by rw [ln_140]; exact g20) dX1_spreadFrom_44 (fun H locs wo => ?_)
      rw [← e22] at wo
      obtain ⟨y23, e24, hf⟩ := lt_elim hf
      refine lv_iinc (v := y23) (lv' := [(4, .int y23), (0, .ref (B + 115)), (1, .int x1), (2, .int x2), (3, .int x3)]) cx.1 cx.2.1 dX1_spreadFrom_45 hl (k := 4) rfl (by rw [e24]; rfl) (by decide) rfl (fun ls hl => ?_)
      refine lv_goto (tgt := 15) cx.1 cx.2.1 dX1_spreadFrom_48 (by decide) ?_
      exact ih _ _ _ _ _ _ hf _ _ _ wo (lv_sub hl [1, 2, 3, 4, 0] rfl)
set_option maxHeartbeats 1000000 in
set_option maxRecDepth 10000 in
theorem wX1_spreadFrom_4 (cx : Cx p s m args c cX1_spreadFrom 5 RX1 G) (hr : meth.sig.returnType = (some .int)) (hlk : meth.locks = false) : ∀ (n : Nat) (x1 : Int32) (x2 : Int32) (x3 : Int32)  (M : Mem) (q : Int32 × Mem), fX1_spreadFrom_4 n x1 x2 x3 M = some q → ∀ (H : Heap) (locs : List Loc) (ls : Array Slot), Wo Ph G B 205 s M H locs → lv_has ls 5 [(0, .ref (B + 115)), (1, .int x1), (2, .int x2), (3, .int x3)] → W p l e (rmN (4)) s m args below meth c H locs 0 0 (MQ below (QcI Ph G B 205 q.1 q.2) args s 0 0 (fr B)) (F0 m 4 ls []) := by
  intro n
  induction n with
  | zero =>
    intro x1 x2 x3 M q hf H locs ls wo hl
    have hf : none = some q := hf
    cases hf
  | succ n ih =>
    intro x1 x2 x3 M q hf H locs ls wo hl
    rw [fX1_spreadFrom_4] at hf
    refine lv_iload_n cx.1 cx.2.1 dX1_spreadFrom_4 rfl (lv_at hl 3 rfl) ?_
    refine lv_aload_n cx.1 cx.2.1 dX1_spreadFrom_5 rfl (lv_at hl 0 rfl) ?_
    refine r_getI cx wo ad_115.1 ad_115.2.1 ad_115.2.2 fiX1_46 dX1_spreadFrom_6 ?_
    refine lv_icmp_ge (tgt := 90) cx.1 cx.2.1 dX1_spreadFrom_9 (by decide) (fun c1 => ?_) (fun c1 => ?_)
    · rw [if_pos c1] at hf
      refine lv_iload_n cx.1 cx.2.1 dX1_spreadFrom_90 rfl (lv_at hl 2 rfl) ?_
      have hq := Option.some.inj hf
      subst hq
      exact r_iret cx wo hr hlk dX1_spreadFrom_91
    · rw [if_neg c1] at hf
      refine lv_iconst (v := 0) cx.1 cx.2.1 dX1_spreadFrom_12 (by decide) ?_
      refine lv_istore (lv' := [(4, .int 0), (0, .ref (B + 115)), (1, .int x1), (2, .int x2), (3, .int x3)]) cx.1 cx.2.1 dX1_spreadFrom_13 hl (by decide) rfl (fun ls hl => ?_)
      exact wX1_spreadFrom_15 cx hr hlk ih _ _ _ _ _ _ _ hf _ _ _ wo (lv_sub hl [1, 2, 3, 4, 0] rfl)
set_option maxHeartbeats 1000000 in
set_option maxRecDepth 10000 in
theorem mX1_spreadFrom (l : Launch) {G : GG} {B : Nat} {x1 : Int32}  {M : Mem} {q : Int32 × Mem} (hf : fX1_spreadFrom x1 M = some q) : Met l yX1_spreadFrom (wsG yX1_spreadFrom cX1_spreadFrom 5 (some .int)) (rmN (4)) (PcW Ph G B 205 M [.ref (B + 115), .int x1]) (QcI Ph G B 205 q.1 q.2) 0 0 (fr B) := by
  refine mk_Met (own := RX1) rfl rfl (Nat.le_of_ble_eq_true rfl) ?_
  intro p e s m below meth c ls cx hr hlk wo hl
  have hl : lv_has ls 5 [(0, .ref (B + 115)), (1, .int x1)] := hl
  unfold fX1_spreadFrom at hf
  refine lv_iconst (v := 0) cx.1 cx.2.1 dX1_spreadFrom_0 (by decide) ?_
  refine lv_istore_n (lv' := [(2, .int 0), (0, .ref (B + 115)), (1, .int x1)]) cx.1 cx.2.1 dX1_spreadFrom_1 rfl hl (by decide) rfl (fun ls hl => ?_)
  refine lv_iconst (v := 0) cx.1 cx.2.1 dX1_spreadFrom_2 (by decide) ?_
  refine lv_istore_n (lv' := [(3, .int 0), (2, .int 0), (0, .ref (B + 115)), (1, .int x1)]) cx.1 cx.2.1 dX1_spreadFrom_3 rfl hl (by decide) rfl (fun ls hl => ?_)
  exact wX1_spreadFrom_4 cx hr hlk _ _ _ _ _ _ hf _ _ _ wo (lv_sub hl [2, 3, 1, 0] rfl)
set_option maxHeartbeats 1000000 in
set_option maxRecDepth 10000 in
theorem wX1_findDays_50 (cx : Cx p s m args c cX1_findDays 4 RX1 G) (hr : meth.sig.returnType = none) (hlk : meth.locks = false) {k34 : Int32 → Int32 → Mem → Option (Mem)} (hk34 : ∀ (x1 : Int32) (x2 : Int32)  (M : Mem) (q : Mem), k34 x1 x2 M = some q → ∀ (H : Heap) (locs : List Loc) (ls : Array Slot), Wo Ph G B 205 s M H locs → lv_has ls 4 [(0, .ref (B + 115)), (1, .int x1), (2, .int x2)] → W p l e (rmN (5)) s m args below meth c H locs 0 0 (MQ below (QcV Ph G B 205 q) args s 0 0 (fr B)) (F0 m 34 ls [])) : ∀ (n : Nat) (x1 : Int32) (x2 : Int32) (x3 : Int32)  (M : Mem) (q : Mem), fX1_findDays_50 k34 n x1 x2 x3 M = some q → ∀ (H : Heap) (locs : List Loc) (ls : Array Slot), Wo Ph G B 205 s M H locs → lv_has ls 4 [(0, .ref (B + 115)), (1, .int x1), (2, .int x2), (3, .int x3)] → W p l e (rmN (5)) s m args below meth c H locs 0 0 (MQ below (QcV Ph G B 205 q) args s 0 0 (fr B)) (F0 m 50 ls []) := by
  intro n
  induction n with
  | zero =>
    intro x1 x2 x3 M q hf H locs ls wo hl
    have hf : none = some q := hf
    cases hf
  | succ n ih =>
    intro x1 x2 x3 M q hf H locs ls wo hl
    rw [fX1_findDays_50] at hf
    refine lv_iload_n cx.1 cx.2.1 dX1_findDays_50 rfl (lv_at hl 3 rfl) ?_
    refine lv_aload_n cx.1 cx.2.1 dX1_findDays_51 rfl (lv_at hl 0 rfl) ?_
    refine r_getI cx wo ad_115.1 ad_115.2.1 ad_115.2.2 fiX1_37 dX1_findDays_52 ?_
    refine lv_icmp_ge (tgt := 87) cx.1 cx.2.1 dX1_findDays_55 (by decide) (fun c12 => ?_) (fun c12 => ?_)
    · rw [if_pos c12] at hf
      obtain ⟨y13, e14, hf⟩ := lt_elim hf
      refine lv_iinc (v := y13) (lv' := [(2, .int y13), (0, .ref (B + 115)), (1, .int x1), (3, .int x3)]) cx.1 cx.2.1 dX1_findDays_87 hl (k := 2) rfl (by rw [e14]; rfl) (by decide) rfl (fun ls hl => ?_)
      refine lv_goto (tgt := 34) cx.1 cx.2.1 dX1_findDays_90 (by decide) ?_
      exact hk34 _ _ _ _ hf _ _ _ wo (lv_sub hl [1, 2, 0] rfl)
    · rw [if_neg c12] at hf
      refine lv_aload_n cx.1 cx.2.1 dX1_findDays_58 rfl (lv_at hl 0 rfl) ?_
      refine r_getR cx wo ad_115.1 ad_115.2.1 ad_115.2.2 fiX1_20 (fn_115_6 wo.2.2.2.1) (by decide) dX1_findDays_59 ?_
      refine lv_iload_n cx.1 cx.2.1 dX1_findDays_62 rfl (lv_at hl 3 rfl) ?_
      obtain ⟨g15, hf⟩ := gd_elim hf
      refine r_iald cx wo ad_137.1 ad_137.2.1 ad_137.2.2 (by rw [ln_137]; exact g15) dX1_findDays_63 ?_
      refine lv_iload_n cx.1 cx.2.1 dX1_findDays_64 rfl (lv_at hl 2 rfl) ?_
      refine lv_icmp_ne (tgt := 81) cx.1 cx.2.1 dX1_findDays_65 (by decide) (fun c16 => ?_) (fun c16 => ?_)
      · rw [if_neg c16] at hf
        obtain ⟨y17, e18, hf⟩ := lt_elim hf
        refine lv_iinc (v := y17) (lv' := [(3, .int y17), (0, .ref (B + 115)), (1, .int x1), (2, .int x2)]) cx.1 cx.2.1 dX1_findDays_81 hl (k := 3) rfl (by rw [e18]; rfl) (by decide) rfl (fun ls hl => ?_)
        refine lv_goto (tgt := 50) cx.1 cx.2.1 dX1_findDays_84 (by decide) ?_
        exact ih _ _ _ _ _ hf _ _ _ wo (lv_sub hl [1, 2, 3, 0] rfl)
      · rw [if_pos c16] at hf
        refine lv_aload_n cx.1 cx.2.1 dX1_findDays_68 rfl (lv_at hl 0 rfl) ?_
        refine lv_iload_n cx.1 cx.2.1 dX1_findDays_69 rfl (lv_at hl 3 rfl) ?_
        obtain ⟨q19, e20, hf⟩ := bd_elim hf
        refine r_Vv (rest := []) cx wo (mX1_unpack l e20) cvX1_55 rfl ad_115.1 ad_115.2.1 ad_115.2.2 rfl rfl hl.1 rfl (Nat.le_of_ble_eq_true rfl) (hR_ok (by decide)) dX1_findDays_70 (fun H locs wo => ?_)
        refine lv_iload_n cx.1 cx.2.1 dX1_findDays_73 rfl (lv_at hl 1 rfl) ?_
        refine lv_aload_n cx.1 cx.2.1 dX1_findDays_74 rfl (lv_at hl 0 rfl) ?_
        refine lv_iload_n cx.1 cx.2.1 dX1_findDays_75 rfl (lv_at hl 2 rfl) ?_
        obtain ⟨q21, e22, hf⟩ := bd_elim hf
        refine r_Vi (rest := [.int x1]) cx wo (mX1_spreadFrom l e22) cvX1_73 rfl ad_115.1 ad_115.2.1 ad_115.2.2 rfl rfl hl.1 rfl (Nat.le_of_ble_eq_true rfl) (hR_ok (by decide)) dX1_findDays_76 (fun H locs wo => ?_)
        refine lv_iadd cx.1 cx.2.1 dX1_findDays_79 ?_
        obtain ⟨y23, e24, hf⟩ := lt_elim hf
        refine r_topi e24 ?_
        refine lv_istore_n (lv' := [(1, .int y23), (0, .ref (B + 115)), (2, .int x2), (3, .int x3)]) cx.1 cx.2.1 dX1_findDays_80 rfl hl (by decide) rfl (fun ls hl => ?_)
        obtain ⟨y25, e26, hf⟩ := lt_elim hf
        refine lv_iinc (v := y25) (lv' := [(3, .int y25), (1, .int y23), (0, .ref (B + 115)), (2, .int x2)]) cx.1 cx.2.1 dX1_findDays_81 hl (k := 3) rfl (by rw [e26]; rfl) (by decide) rfl (fun ls hl => ?_)
        refine lv_goto (tgt := 50) cx.1 cx.2.1 dX1_findDays_84 (by decide) ?_
        exact ih _ _ _ _ _ hf _ _ _ wo (lv_sub hl [2, 1, 3, 0] rfl)
set_option maxHeartbeats 1000000 in
set_option maxRecDepth 10000 in
theorem wX1_findDays_34 (cx : Cx p s m args c cX1_findDays 4 RX1 G) (hr : meth.sig.returnType = none) (hlk : meth.locks = false) : ∀ (n : Nat) (x1 : Int32) (x2 : Int32)  (M : Mem) (q : Mem), fX1_findDays_34 n x1 x2 M = some q → ∀ (H : Heap) (locs : List Loc) (ls : Array Slot), Wo Ph G B 205 s M H locs → lv_has ls 4 [(0, .ref (B + 115)), (1, .int x1), (2, .int x2)] → W p l e (rmN (5)) s m args below meth c H locs 0 0 (MQ below (QcV Ph G B 205 q) args s 0 0 (fr B)) (F0 m 34 ls []) := by
  intro n
  induction n with
  | zero =>
    intro x1 x2 M q hf H locs ls wo hl
    have hf : none = some q := hf
    cases hf
  | succ n ih =>
    intro x1 x2 M q hf H locs ls wo hl
    rw [fX1_findDays_34] at hf
    refine lv_iload_n cx.1 cx.2.1 dX1_findDays_34 rfl (lv_at hl 2 rfl) ?_
    refine lv_bipush (v := 6) cx.1 cx.2.1 dX1_findDays_35 (by decide) ?_
    refine lv_icmp_ge (tgt := 93) cx.1 cx.2.1 dX1_findDays_37 (by decide) (fun c10 => ?_) (fun c10 => ?_)
    · rw [if_pos c10] at hf
      have hq := Option.some.inj hf
      subst hq
      exact r_vret cx wo hr hlk dX1_findDays_93
    · rw [if_neg c10] at hf
      refine lv_iload_n cx.1 cx.2.1 dX1_findDays_40 rfl (lv_at hl 1 rfl) ?_
      refine lv_aload_n cx.1 cx.2.1 dX1_findDays_41 rfl (lv_at hl 0 rfl) ?_
      refine r_getI cx wo ad_115.1 ad_115.2.1 ad_115.2.2 fiX1_37 dX1_findDays_42 ?_
      refine lv_icmp_ge (tgt := 93) cx.1 cx.2.1 dX1_findDays_45 (by decide) (fun c11 => ?_) (fun c11 => ?_)
      · rw [if_pos c11] at hf
        have hq := Option.some.inj hf
        subst hq
        exact r_vret cx wo hr hlk dX1_findDays_93
      · rw [if_neg c11] at hf
        refine lv_iconst (v := 0) cx.1 cx.2.1 dX1_findDays_48 (by decide) ?_
        refine lv_istore_n (lv' := [(3, .int 0), (0, .ref (B + 115)), (1, .int x1), (2, .int x2)]) cx.1 cx.2.1 dX1_findDays_49 rfl hl (by decide) rfl (fun ls hl => ?_)
        exact wX1_findDays_50 cx hr hlk ih _ _ _ _ _ _ hf _ _ _ wo (lv_sub hl [1, 2, 3, 0] rfl)
set_option maxHeartbeats 1000000 in
set_option maxRecDepth 10000 in
theorem wX1_findDays_2 (cx : Cx p s m args c cX1_findDays 4 RX1 G) (hr : meth.sig.returnType = none) (hlk : meth.locks = false) : ∀ (n : Nat) (x1 : Int32)  (M : Mem) (q : Mem), fX1_findDays_2 n x1 M = some q → ∀ (H : Heap) (locs : List Loc) (ls : Array Slot), Wo Ph G B 205 s M H locs → lv_has ls 4 [(0, .ref (B + 115)), (1, .int x1)] → W p l e (rmN (5)) s m args below meth c H locs 0 0 (MQ below (QcV Ph G B 205 q) args s 0 0 (fr B)) (F0 m 2 ls []) := by
  intro n
  induction n with
  | zero =>
    intro x1 M q hf H locs ls wo hl
    have hf : none = some q := hf
    cases hf
  | succ n ih =>
    intro x1 M q hf H locs ls wo hl
    rw [fX1_findDays_2] at hf
    refine lv_iload_n cx.1 cx.2.1 dX1_findDays_2 rfl (lv_at hl 1 rfl) ?_
    refine lv_aload_n cx.1 cx.2.1 dX1_findDays_3 rfl (lv_at hl 0 rfl) ?_
    refine r_getI cx wo ad_115.1 ad_115.2.1 ad_115.2.2 fiX1_37 dX1_findDays_4 ?_
    refine lv_icmp_ge (tgt := 23) cx.1 cx.2.1 dX1_findDays_7 (by decide) (fun c1 => ?_) (fun c1 => ?_)
    · rw [if_pos c1] at hf
      refine lv_aload_n cx.1 cx.2.1 dX1_findDays_23 rfl (lv_at hl 0 rfl) ?_
      refine r_getR cx wo ad_115.1 ad_115.2.1 ad_115.2.2 fiX1_20 (fn_115_6 wo.2.2.2.1) (by decide) dX1_findDays_24 ?_
      refine lv_iconst (v := 0) cx.1 cx.2.1 dX1_findDays_27 (by decide) ?_
      refine lv_iconst (v := 0) cx.1 cx.2.1 dX1_findDays_28 (by decide) ?_
      obtain ⟨g2, hf⟩ := gd_elim hf
      obtain ⟨M3, e4, hf⟩ := lt_elim hf
      refine r_iast cx wo ad_137.1 ad_137.2.1 ad_137.2.2 (by rw [ln_137]; exact g2) dX1_findDays_29 (fun H locs wo => ?_)
      rw [← e4] at wo
      refine lv_iconst (v := 1) cx.1 cx.2.1 dX1_findDays_30 (by decide) ?_
      refine lv_istore_n (lv' := [(1, .int 1), (0, .ref (B + 115))]) cx.1 cx.2.1 dX1_findDays_31 rfl hl (by decide) rfl (fun ls hl => ?_)
      refine lv_iconst (v := 0) cx.1 cx.2.1 dX1_findDays_32 (by decide) ?_
      refine lv_istore_n (lv' := [(2, .int 0), (1, .int 1), (0, .ref (B + 115))]) cx.1 cx.2.1 dX1_findDays_33 rfl hl (by decide) rfl (fun ls hl => ?_)
      exact wX1_findDays_34 cx hr hlk _ _ _ _ _ hf _ _ _ wo (lv_sub hl [2, 1, 0] rfl)
    · rw [if_neg c1] at hf
      refine lv_aload_n cx.1 cx.2.1 dX1_findDays_10 rfl (lv_at hl 0 rfl) ?_
      refine r_getR cx wo ad_115.1 ad_115.2.1 ad_115.2.2 fiX1_20 (fn_115_6 wo.2.2.2.1) (by decide) dX1_findDays_11 ?_
      refine lv_iload_n cx.1 cx.2.1 dX1_findDays_14 rfl (lv_at hl 1 rfl) ?_
      refine lv_iconst (v := (-1)) cx.1 cx.2.1 dX1_findDays_15 (by decide) ?_
      obtain ⟨g5, hf⟩ := gd_elim hf
      obtain ⟨M6, e7, hf⟩ := lt_elim hf
      refine r_iast cx wo ad_137.1 ad_137.2.1 ad_137.2.2 (by rw [ln_137]; exact g5) dX1_findDays_16 (fun H locs wo => ?_)
      rw [← e7] at wo
      obtain ⟨y8, e9, hf⟩ := lt_elim hf
      refine lv_iinc (v := y8) (lv' := [(1, .int y8), (0, .ref (B + 115))]) cx.1 cx.2.1 dX1_findDays_17 hl (k := 1) rfl (by rw [e9]; rfl) (by decide) rfl (fun ls hl => ?_)
      refine lv_goto (tgt := 2) cx.1 cx.2.1 dX1_findDays_20 (by decide) ?_
      exact ih _ _ _ hf _ _ _ wo (lv_sub hl [1, 0] rfl)
set_option maxHeartbeats 1000000 in
set_option maxRecDepth 10000 in
theorem mX1_findDays (l : Launch) {G : GG} {B : Nat}   {M : Mem} {q : Mem} (hf : fX1_findDays  M = some q) : Met l yX1_findDays (wsG yX1_findDays cX1_findDays 4 none) (rmN (5)) (PcW Ph G B 205 M [.ref (B + 115)]) (QcV Ph G B 205 q) 0 0 (fr B) := by
  refine mk_Met (own := RX1) rfl rfl (Nat.le_of_ble_eq_true rfl) ?_
  intro p e s m below meth c ls cx hr hlk wo hl
  have hl : lv_has ls 4 [(0, .ref (B + 115))] := hl
  unfold fX1_findDays at hf
  refine lv_iconst (v := 0) cx.1 cx.2.1 dX1_findDays_0 (by decide) ?_
  refine lv_istore_n (lv' := [(1, .int 0), (0, .ref (B + 115))]) cx.1 cx.2.1 dX1_findDays_1 rfl hl (by decide) rfl (fun ls hl => ?_)
  exact wX1_findDays_2 cx hr hlk _ _ _ _ hf _ _ _ wo (lv_sub hl [1, 0] rfl)
set_option maxHeartbeats 1000000 in
set_option maxRecDepth 10000 in
theorem wX1_prepare_31 (cx : Cx p s m args c cX1_prepare 3 RX1 G) (hr : meth.sig.returnType = none) (hlk : meth.locks = false) : ∀ (n : Nat) (x1 : Int32) (x2 : Int32)  (M : Mem) (q : Mem), fX1_prepare_31 n x1 x2 M = some q → ∀ (H : Heap) (locs : List Loc) (ls : Array Slot), Wo Ph G B 205 s M H locs → lv_has ls 3 [(0, .ref (B + 115)), (1, .int x1), (2, .int x2)] → W p l e (rmN (6)) s m args below meth c H locs 0 0 (MQ below (QcV Ph G B 205 q) args s 0 0 (fr B)) (F0 m 31 ls []) := by
  intro n
  induction n with
  | zero =>
    intro x1 x2 M q hf H locs ls wo hl
    have hf : none = some q := hf
    cases hf
  | succ n ih =>
    intro x1 x2 M q hf H locs ls wo hl
    rw [fX1_prepare_31] at hf
    refine lv_iload_n cx.1 cx.2.1 dX1_prepare_31 rfl (lv_at hl 2 rfl) ?_
    refine lv_iload_n cx.1 cx.2.1 dX1_prepare_32 rfl (lv_at hl 1 rfl) ?_
    refine lv_icmp_gt (tgt := 52) cx.1 cx.2.1 dX1_prepare_33 (by decide) (fun c8 => ?_) (fun c8 => ?_)
    · rw [if_pos c8] at hf
      refine lv_aload_n cx.1 cx.2.1 dX1_prepare_52 rfl (lv_at hl 0 rfl) ?_
      obtain ⟨q9, e10, hf⟩ := bd_elim hf
      refine r_Vv (rest := []) cx wo (mX1_findSets l e10) cvX1_40 rfl ad_115.1 ad_115.2.1 ad_115.2.2 rfl rfl hl.1 rfl (Nat.le_of_ble_eq_true rfl) (hR_ok (by decide)) dX1_prepare_53 (fun H locs wo => ?_)
      refine lv_aload_n cx.1 cx.2.1 dX1_prepare_56 rfl (lv_at hl 0 rfl) ?_
      obtain ⟨q11, e12, hf⟩ := bd_elim hf
      refine r_Vv (rest := []) cx wo (mX1_findDays l e12) cvX1_43 rfl ad_115.1 ad_115.2.1 ad_115.2.2 rfl rfl hl.1 rfl (Nat.le_of_ble_eq_true rfl) (hR_ok (by decide)) dX1_prepare_57 (fun H locs wo => ?_)
      have hq := Option.some.inj hf
      subst hq
      exact r_vret cx wo hr hlk dX1_prepare_60
    · rw [if_neg c8] at hf
      refine lv_aload_n cx.1 cx.2.1 dX1_prepare_36 rfl (lv_at hl 0 rfl) ?_
      refine lv_dup cx.1 cx.2.1 dX1_prepare_37 rfl ?_
      refine r_getI cx wo ad_115.1 ad_115.2.1 ad_115.2.2 fiX1_37 dX1_prepare_38 ?_
      refine lv_iload_n cx.1 cx.2.1 dX1_prepare_41 rfl (lv_at hl 2 rfl) ?_
      refine lv_imul cx.1 cx.2.1 dX1_prepare_42 ?_
      obtain ⟨M13, e14, hf⟩ := lt_elim hf
      refine r_putI cx wo ad_115.1 ad_115.2.1 ad_115.2.2 fpX1_37 dX1_prepare_43 (fun H locs wo => ?_)
      rw [← e14] at wo
      obtain ⟨y15, e16, hf⟩ := lt_elim hf
      refine lv_iinc (v := y15) (lv' := [(2, .int y15), (0, .ref (B + 115)), (1, .int x1)]) cx.1 cx.2.1 dX1_prepare_46 hl (k := 2) rfl (by rw [e16]; rfl) (by decide) rfl (fun ls hl => ?_)
      refine lv_goto (tgt := 31) cx.1 cx.2.1 dX1_prepare_49 (by decide) ?_
      exact ih _ _ _ _ hf _ _ _ wo (lv_sub hl [1, 2, 0] rfl)
set_option maxHeartbeats 1000000 in
set_option maxRecDepth 10000 in
theorem mX1_prepare (l : Launch) {G : GG} {B : Nat} {x1 : Int32}  {M : Mem} {q : Mem} (hf : fX1_prepare x1 M = some q) : Met l yX1_prepare (wsG yX1_prepare cX1_prepare 3 none) (rmN (6)) (PcW Ph G B 205 M [.ref (B + 115), .int x1]) (QcV Ph G B 205 q) 0 0 (fr B) := by
  refine mk_Met (own := RX1) rfl rfl (Nat.le_of_ble_eq_true rfl) ?_
  intro p e s m below meth c ls cx hr hlk wo hl
  have hl : lv_has ls 3 [(0, .ref (B + 115)), (1, .int x1)] := hl
  unfold fX1_prepare at hf
  refine lv_iload_n cx.1 cx.2.1 dX1_prepare_0 rfl (lv_at hl 1 rfl) ?_
  refine lv_aload_n cx.1 cx.2.1 dX1_prepare_1 rfl (lv_at hl 0 rfl) ?_
  refine r_getI cx wo ad_115.1 ad_115.2.1 ad_115.2.2 fiX1_9 dX1_prepare_2 ?_
  refine lv_icmp_eq (tgt := 18) cx.1 cx.2.1 dX1_prepare_5 (by decide) (fun c1 => ?_) (fun c1 => ?_)
  · rw [if_pos c1] at hf
    have hq := Option.some.inj hf
    subst hq
    exact r_vret cx wo hr hlk dX1_prepare_18
  · rw [if_neg c1] at hf
    refine lv_iload_n cx.1 cx.2.1 dX1_prepare_8 rfl (lv_at hl 1 rfl) ?_
    refine lv_if_lt (tgt := 18) cx.1 cx.2.1 dX1_prepare_9 (by decide) (fun c2 => ?_) (fun c2 => ?_)
    · rw [if_pos c2] at hf
      have hq := Option.some.inj hf
      subst hq
      exact r_vret cx wo hr hlk dX1_prepare_18
    · rw [if_neg c2] at hf
      refine lv_iload_n cx.1 cx.2.1 dX1_prepare_12 rfl (lv_at hl 1 rfl) ?_
      refine lv_bipush (v := 6) cx.1 cx.2.1 dX1_prepare_13 (by decide) ?_
      refine lv_icmp_le (tgt := 19) cx.1 cx.2.1 dX1_prepare_15 (by decide) (fun c3 => ?_) (fun c3 => ?_)
      · rw [if_pos c3] at hf
        refine lv_aload_n cx.1 cx.2.1 dX1_prepare_19 rfl (lv_at hl 0 rfl) ?_
        refine lv_iload_n cx.1 cx.2.1 dX1_prepare_20 rfl (lv_at hl 1 rfl) ?_
        obtain ⟨M4, e5, hf⟩ := lt_elim hf
        refine r_putI cx wo ad_115.1 ad_115.2.1 ad_115.2.2 fpX1_9 dX1_prepare_21 (fun H locs wo => ?_)
        rw [← e5] at wo
        refine lv_aload_n cx.1 cx.2.1 dX1_prepare_24 rfl (lv_at hl 0 rfl) ?_
        refine lv_iconst (v := 1) cx.1 cx.2.1 dX1_prepare_25 (by decide) ?_
        obtain ⟨M6, e7, hf⟩ := lt_elim hf
        refine r_putI cx wo ad_115.1 ad_115.2.1 ad_115.2.2 fpX1_37 dX1_prepare_26 (fun H locs wo => ?_)
        rw [← e7] at wo
        refine lv_iconst (v := 2) cx.1 cx.2.1 dX1_prepare_29 (by decide) ?_
        refine lv_istore_n (lv' := [(2, .int 2), (0, .ref (B + 115)), (1, .int x1)]) cx.1 cx.2.1 dX1_prepare_30 rfl hl (by decide) rfl (fun ls hl => ?_)
        exact wX1_prepare_31 cx hr hlk _ _ _ _ _ hf _ _ _ wo (lv_sub hl [1, 2, 0] rfl)
      · rw [if_neg c3] at hf
        have hq := Option.some.inj hf
        subst hq
        exact r_vret cx wo hr hlk dX1_prepare_18
set_option maxHeartbeats 1000000 in
set_option maxRecDepth 10000 in
theorem mX1_daysFor (l : Launch) {G : GG} {B : Nat} {a1 : Nat} (h1 : isI a1) {M : Mem} {q : Int32 × Mem} (hf : fX1_daysFor a1 M = some q) : Met l yX1_daysFor (wsG yX1_daysFor cX1_daysFor 2 (some .int)) (rmN (4)) (PcW Ph G B 205 M [.ref (B + 115), .ref (B + a1)]) (QcI Ph G B 205 q.1 q.2) 0 0 (fr B) := by
  refine mk_Met (own := RX1) rfl rfl (Nat.le_of_ble_eq_true rfl) ?_
  intro p e s m below meth c ls cx hr hlk wo hl
  have hl : lv_has ls 2 [(0, .ref (B + 115)), (1, .ref (B + a1))] := hl
  unfold fX1_daysFor at hf
  refine lv_aload_n cx.1 cx.2.1 dX1_daysFor_0 rfl (lv_at hl 0 rfl) ?_
  refine r_getR cx wo ad_115.1 ad_115.2.1 ad_115.2.2 fiX1_20 (fn_115_6 wo.2.2.2.1) (by decide) dX1_daysFor_1 ?_
  refine lv_aload_n cx.1 cx.2.1 dX1_daysFor_4 rfl (lv_at hl 0 rfl) ?_
  refine lv_aload_n cx.1 cx.2.1 dX1_daysFor_5 rfl (lv_at hl 1 rfl) ?_
  obtain ⟨q1, e2, hf⟩ := bd_elim hf
  refine r_Vi (rest := [.ref (B + 137)]) cx wo (mX1_numberOf l (h1) e2) cvX1_77 rfl ad_115.1 ad_115.2.1 ad_115.2.2 rfl rfl hl.1 rfl (Nat.le_of_ble_eq_true rfl) (hR_ok (by decide)) dX1_daysFor_6 (fun H locs wo => ?_)
  obtain ⟨g3, hf⟩ := gd_elim hf
  refine r_iald cx wo ad_137.1 ad_137.2.1 ad_137.2.2 (by rw [ln_137]; exact g3) dX1_daysFor_9 ?_
  have hq := Option.some.inj hf
  subst hq
  exact r_iret cx wo hr hlk dX1_daysFor_10
set_option maxHeartbeats 1000000 in
set_option maxRecDepth 10000 in
theorem wX1_ordersWithin_4 (cx : Cx p s m args c cX1_ordersWithin 4 RX1 G) (hr : meth.sig.returnType = (some .int)) (hlk : meth.locks = false) : ∀ (n : Nat) (x1 : Int32) (x2 : Int32) (x3 : Int32)  (M : Mem) (q : Int32 × Mem), fX1_ordersWithin_4 n x1 x2 x3 M = some q → ∀ (H : Heap) (locs : List Loc) (ls : Array Slot), Wo Ph G B 205 s M H locs → lv_has ls 4 [(0, .ref (B + 115)), (1, .int x1), (2, .int x2), (3, .int x3)] → W p l e (rmN (2)) s m args below meth c H locs 0 0 (MQ below (QcI Ph G B 205 q.1 q.2) args s 0 0 (fr B)) (F0 m 4 ls []) := by
  intro n
  induction n with
  | zero =>
    intro x1 x2 x3 M q hf H locs ls wo hl
    have hf : none = some q := hf
    cases hf
  | succ n ih =>
    intro x1 x2 x3 M q hf H locs ls wo hl
    rw [fX1_ordersWithin_4] at hf
    refine lv_iload_n cx.1 cx.2.1 dX1_ordersWithin_4 rfl (lv_at hl 3 rfl) ?_
    refine lv_aload_n cx.1 cx.2.1 dX1_ordersWithin_5 rfl (lv_at hl 0 rfl) ?_
    refine r_getI cx wo ad_115.1 ad_115.2.1 ad_115.2.2 fiX1_37 dX1_ordersWithin_6 ?_
    refine lv_icmp_ge (tgt := 36) cx.1 cx.2.1 dX1_ordersWithin_9 (by decide) (fun c1 => ?_) (fun c1 => ?_)
    · rw [if_pos c1] at hf
      refine lv_iload_n cx.1 cx.2.1 dX1_ordersWithin_36 rfl (lv_at hl 2 rfl) ?_
      have hq := Option.some.inj hf
      subst hq
      exact r_iret cx wo hr hlk dX1_ordersWithin_37
    · rw [if_neg c1] at hf
      refine lv_iload_n cx.1 cx.2.1 dX1_ordersWithin_12 rfl (lv_at hl 2 rfl) ?_
      refine lv_aload_n cx.1 cx.2.1 dX1_ordersWithin_13 rfl (lv_at hl 0 rfl) ?_
      refine r_getR cx wo ad_115.1 ad_115.2.1 ad_115.2.2 fiX1_20 (fn_115_6 wo.2.2.2.1) (by decide) dX1_ordersWithin_14 ?_
      refine lv_iload_n cx.1 cx.2.1 dX1_ordersWithin_17 rfl (lv_at hl 3 rfl) ?_
      obtain ⟨g2, hf⟩ := gd_elim hf
      refine r_iald cx wo ad_137.1 ad_137.2.1 ad_137.2.2 (by rw [ln_137]; exact g2) dX1_ordersWithin_18 ?_
      refine lv_iload_n cx.1 cx.2.1 dX1_ordersWithin_19 rfl (lv_at hl 1 rfl) ?_
      refine lv_icmp_gt (tgt := 27) cx.1 cx.2.1 dX1_ordersWithin_20 (by decide) (fun c3 => ?_) (fun c3 => ?_)
      · rw [if_pos c3] at hf
        refine lv_iconst (v := 0) cx.1 cx.2.1 dX1_ordersWithin_27 (by decide) ?_
        refine lv_iadd cx.1 cx.2.1 dX1_ordersWithin_28 ?_
        obtain ⟨y4, e5, hf⟩ := lt_elim hf
        refine r_topi e5 ?_
        refine lv_istore_n (lv' := [(2, .int y4), (0, .ref (B + 115)), (1, .int x1), (3, .int x3)]) cx.1 cx.2.1 dX1_ordersWithin_29 rfl hl (by decide) rfl (fun ls hl => ?_)
        obtain ⟨y6, e7, hf⟩ := lt_elim hf
        refine lv_iinc (v := y6) (lv' := [(3, .int y6), (2, .int y4), (0, .ref (B + 115)), (1, .int x1)]) cx.1 cx.2.1 dX1_ordersWithin_30 hl (k := 3) rfl (by rw [e7]; rfl) (by decide) rfl (fun ls hl => ?_)
        refine lv_goto (tgt := 4) cx.1 cx.2.1 dX1_ordersWithin_33 (by decide) ?_
        exact ih _ _ _ _ _ hf _ _ _ wo (lv_sub hl [2, 3, 1, 0] rfl)
      · rw [if_neg c3] at hf
        refine lv_iconst (v := 1) cx.1 cx.2.1 dX1_ordersWithin_23 (by decide) ?_
        refine lv_goto (tgt := 28) cx.1 cx.2.1 dX1_ordersWithin_24 (by decide) ?_
        refine lv_iadd cx.1 cx.2.1 dX1_ordersWithin_28 ?_
        obtain ⟨y8, e9, hf⟩ := lt_elim hf
        refine r_topi e9 ?_
        refine lv_istore_n (lv' := [(2, .int y8), (0, .ref (B + 115)), (1, .int x1), (3, .int x3)]) cx.1 cx.2.1 dX1_ordersWithin_29 rfl hl (by decide) rfl (fun ls hl => ?_)
        obtain ⟨y10, e11, hf⟩ := lt_elim hf
        refine lv_iinc (v := y10) (lv' := [(3, .int y10), (2, .int y8), (0, .ref (B + 115)), (1, .int x1)]) cx.1 cx.2.1 dX1_ordersWithin_30 hl (k := 3) rfl (by rw [e11]; rfl) (by decide) rfl (fun ls hl => ?_)
        refine lv_goto (tgt := 4) cx.1 cx.2.1 dX1_ordersWithin_33 (by decide) ?_
        exact ih _ _ _ _ _ hf _ _ _ wo (lv_sub hl [2, 3, 1, 0] rfl)
set_option maxHeartbeats 1000000 in
set_option maxRecDepth 10000 in
theorem mX1_ordersWithin (l : Launch) {G : GG} {B : Nat} {x1 : Int32}  {M : Mem} {q : Int32 × Mem} (hf : fX1_ordersWithin x1 M = some q) : Met l yX1_ordersWithin (wsG yX1_ordersWithin cX1_ordersWithin 4 (some .int)) (rmN (2)) (PcW Ph G B 205 M [.ref (B + 115), .int x1]) (QcI Ph G B 205 q.1 q.2) 0 0 (fr B) := by
  refine mk_Met (own := RX1) rfl rfl (Nat.le_of_ble_eq_true rfl) ?_
  intro p e s m below meth c ls cx hr hlk wo hl
  have hl : lv_has ls 4 [(0, .ref (B + 115)), (1, .int x1)] := hl
  unfold fX1_ordersWithin at hf
  refine lv_iconst (v := 0) cx.1 cx.2.1 dX1_ordersWithin_0 (by decide) ?_
  refine lv_istore_n (lv' := [(2, .int 0), (0, .ref (B + 115)), (1, .int x1)]) cx.1 cx.2.1 dX1_ordersWithin_1 rfl hl (by decide) rfl (fun ls hl => ?_)
  refine lv_iconst (v := 0) cx.1 cx.2.1 dX1_ordersWithin_2 (by decide) ?_
  refine lv_istore_n (lv' := [(3, .int 0), (2, .int 0), (0, .ref (B + 115)), (1, .int x1)]) cx.1 cx.2.1 dX1_ordersWithin_3 rfl hl (by decide) rfl (fun ls hl => ?_)
  exact wX1_ordersWithin_4 cx hr hlk _ _ _ _ _ _ hf _ _ _ wo (lv_sub hl [2, 3, 1, 0] rfl)
set_option maxHeartbeats 1000000 in
set_option maxRecDepth 10000 in
theorem wX1_countPlaces_51 (cx : Cx p s m args c cX1_countPlaces 5 RX1 G) (hr : meth.sig.returnType = none) (hlk : meth.locks = false) {k25 : Int32 → Int32 → Int32 → Mem → Option (Mem)} (hk25 : ∀ (x1 : Int32) (x2 : Int32) (x3 : Int32)  (M : Mem) (q : Mem), k25 x1 x2 x3 M = some q → ∀ (H : Heap) (locs : List Loc) (ls : Array Slot), Wo Ph G B 205 s M H locs → lv_has ls 5 [(0, .ref (B + 115)), (1, .int x1), (2, .int x2), (3, .int x3)] → W p l e (rmN (4)) s m args below meth c H locs 0 0 (MQ below (QcV Ph G B 205 q) args s 0 0 (fr B)) (F0 m 25 ls [])) : ∀ (n : Nat) (x1 : Int32) (x2 : Int32) (x3 : Int32) (x4 : Int32)  (M : Mem) (q : Mem), fX1_countPlaces_51 k25 n x1 x2 x3 x4 M = some q → ∀ (H : Heap) (locs : List Loc) (ls : Array Slot), Wo Ph G B 205 s M H locs → lv_has ls 5 [(0, .ref (B + 115)), (1, .int x1), (2, .int x2), (3, .int x3), (4, .int x4)] → W p l e (rmN (4)) s m args below meth c H locs 0 0 (MQ below (QcV Ph G B 205 q) args s 0 0 (fr B)) (F0 m 51 ls []) := by
  intro n
  induction n with
  | zero =>
    intro x1 x2 x3 x4 M q hf H locs ls wo hl
    have hf : none = some q := hf
    cases hf
  | succ n ih =>
    intro x1 x2 x3 x4 M q hf H locs ls wo hl
    rw [fX1_countPlaces_51] at hf
    refine lv_iload cx.1 cx.2.1 dX1_countPlaces_51 (lv_at hl 4 rfl) ?_
    refine lv_aload_n cx.1 cx.2.1 dX1_countPlaces_53 rfl (lv_at hl 0 rfl) ?_
    refine r_getI cx wo ad_115.1 ad_115.2.1 ad_115.2.2 fiX1_9 dX1_countPlaces_54 ?_
    refine lv_icmp_ge (tgt := 92) cx.1 cx.2.1 dX1_countPlaces_57 (by decide) (fun c14 => ?_) (fun c14 => ?_)
    · rw [if_pos c14] at hf
      obtain ⟨y15, e16, hf⟩ := lt_elim hf
      refine lv_iinc (v := y15) (lv' := [(3, .int y15), (0, .ref (B + 115)), (1, .int x1), (2, .int x2), (4, .int x4)]) cx.1 cx.2.1 dX1_countPlaces_92 hl (k := 3) rfl (by rw [e16]; rfl) (by decide) rfl (fun ls hl => ?_)
      refine lv_goto (tgt := 25) cx.1 cx.2.1 dX1_countPlaces_95 (by decide) ?_
      exact hk25 _ _ _ _ _ hf _ _ _ wo (lv_sub hl [1, 2, 3, 0] rfl)
    · rw [if_neg c14] at hf
      refine lv_aload_n cx.1 cx.2.1 dX1_countPlaces_60 rfl (lv_at hl 0 rfl) ?_
      refine r_getR cx wo ad_115.1 ad_115.2.1 ad_115.2.2 fiX1_24 (fn_115_7 wo.2.2.2.1) (by decide) dX1_countPlaces_61 ?_
      refine lv_iload cx.1 cx.2.1 dX1_countPlaces_64 (lv_at hl 4 rfl) ?_
      refine lv_dup2_11 cx.1 cx.2.1 dX1_countPlaces_66 rfl rfl ?_
      obtain ⟨g17, hf⟩ := gd_elim hf
      refine r_iald cx wo ad_138.1 ad_138.2.1 ad_138.2.2 (by rw [ln_138]; exact g17) dX1_countPlaces_67 ?_
      refine lv_aload_n cx.1 cx.2.1 dX1_countPlaces_68 rfl (lv_at hl 0 rfl) ?_
      refine r_getR cx wo ad_115.1 ad_115.2.1 ad_115.2.2 fiX1_27 (fn_115_8 wo.2.2.2.1) (by decide) dX1_countPlaces_69 ?_
      refine lv_iload cx.1 cx.2.1 dX1_countPlaces_72 (lv_at hl 4 rfl) ?_
      obtain ⟨g18, hf⟩ := gd_elim hf
      refine r_iald cx wo ad_139.1 ad_139.2.1 ad_139.2.2 (by rw [ln_139]; exact g18) dX1_countPlaces_74 ?_
      refine lv_iload_n cx.1 cx.2.1 dX1_countPlaces_75 rfl (lv_at hl 1 rfl) ?_
      refine lv_icmp_ne (tgt := 83) cx.1 cx.2.1 dX1_countPlaces_76 (by decide) (fun c19 => ?_) (fun c19 => ?_)
      · rw [if_neg c19] at hf
        refine lv_iconst (v := 0) cx.1 cx.2.1 dX1_countPlaces_83 (by decide) ?_
        refine lv_iadd cx.1 cx.2.1 dX1_countPlaces_84 ?_
        obtain ⟨g20, hf⟩ := gd_elim hf
        obtain ⟨M21, e22, hf⟩ := lt_elim hf
        refine r_iast cx wo ad_138.1 ad_138.2.1 ad_138.2.2 (by rw [ln_138]; exact g20) dX1_countPlaces_85 (fun H locs wo => ?_)
        rw [← e22] at wo
        obtain ⟨y23, e24, hf⟩ := lt_elim hf
        refine lv_iinc (v := y23) (lv' := [(4, .int y23), (0, .ref (B + 115)), (1, .int x1), (2, .int x2), (3, .int x3)]) cx.1 cx.2.1 dX1_countPlaces_86 hl (k := 4) rfl (by rw [e24]; rfl) (by decide) rfl (fun ls hl => ?_)
        refine lv_goto (tgt := 51) cx.1 cx.2.1 dX1_countPlaces_89 (by decide) ?_
        exact ih _ _ _ _ _ _ hf _ _ _ wo (lv_sub hl [1, 2, 3, 4, 0] rfl)
      · rw [if_pos c19] at hf
        refine lv_iconst (v := 1) cx.1 cx.2.1 dX1_countPlaces_79 (by decide) ?_
        refine lv_goto (tgt := 84) cx.1 cx.2.1 dX1_countPlaces_80 (by decide) ?_
        refine lv_iadd cx.1 cx.2.1 dX1_countPlaces_84 ?_
        obtain ⟨g25, hf⟩ := gd_elim hf
        obtain ⟨M26, e27, hf⟩ := lt_elim hf
        refine r_iast cx wo ad_138.1 ad_138.2.1 ad_138.2.2 (by rw [ln_138]; exact g25) dX1_countPlaces_85 (fun H locs wo => ?_)
        rw [← e27] at wo
        obtain ⟨y28, e29, hf⟩ := lt_elim hf
        refine lv_iinc (v := y28) (lv' := [(4, .int y28), (0, .ref (B + 115)), (1, .int x1), (2, .int x2), (3, .int x3)]) cx.1 cx.2.1 dX1_countPlaces_86 hl (k := 4) rfl (by rw [e29]; rfl) (by decide) rfl (fun ls hl => ?_)
        refine lv_goto (tgt := 51) cx.1 cx.2.1 dX1_countPlaces_89 (by decide) ?_
        exact ih _ _ _ _ _ _ hf _ _ _ wo (lv_sub hl [1, 2, 3, 4, 0] rfl)
set_option maxHeartbeats 1000000 in
set_option maxRecDepth 10000 in
theorem wX1_countPlaces_25 (cx : Cx p s m args c cX1_countPlaces 5 RX1 G) (hr : meth.sig.returnType = none) (hlk : meth.locks = false) : ∀ (n : Nat) (x1 : Int32) (x2 : Int32) (x3 : Int32)  (M : Mem) (q : Mem), fX1_countPlaces_25 n x1 x2 x3 M = some q → ∀ (H : Heap) (locs : List Loc) (ls : Array Slot), Wo Ph G B 205 s M H locs → lv_has ls 5 [(0, .ref (B + 115)), (1, .int x1), (2, .int x2), (3, .int x3)] → W p l e (rmN (4)) s m args below meth c H locs 0 0 (MQ below (QcV Ph G B 205 q) args s 0 0 (fr B)) (F0 m 25 ls []) := by
  intro n
  induction n with
  | zero =>
    intro x1 x2 x3 M q hf H locs ls wo hl
    have hf : none = some q := hf
    cases hf
  | succ n ih =>
    intro x1 x2 x3 M q hf H locs ls wo hl
    rw [fX1_countPlaces_25] at hf
    refine lv_iload_n cx.1 cx.2.1 dX1_countPlaces_25 rfl (lv_at hl 3 rfl) ?_
    refine lv_aload_n cx.1 cx.2.1 dX1_countPlaces_26 rfl (lv_at hl 0 rfl) ?_
    refine r_getI cx wo ad_115.1 ad_115.2.1 ad_115.2.2 fiX1_37 dX1_countPlaces_27 ?_
    refine lv_icmp_ge (tgt := 98) cx.1 cx.2.1 dX1_countPlaces_30 (by decide) (fun c7 => ?_) (fun c7 => ?_)
    · rw [if_pos c7] at hf
      have hq := Option.some.inj hf
      subst hq
      exact r_vret cx wo hr hlk dX1_countPlaces_98
    · rw [if_neg c7] at hf
      refine lv_aload_n cx.1 cx.2.1 dX1_countPlaces_33 rfl (lv_at hl 0 rfl) ?_
      refine r_getR cx wo ad_115.1 ad_115.2.1 ad_115.2.2 fiX1_20 (fn_115_6 wo.2.2.2.1) (by decide) dX1_countPlaces_34 ?_
      refine lv_iload_n cx.1 cx.2.1 dX1_countPlaces_37 rfl (lv_at hl 3 rfl) ?_
      obtain ⟨g8, hf⟩ := gd_elim hf
      refine r_iald cx wo ad_137.1 ad_137.2.1 ad_137.2.2 (by rw [ln_137]; exact g8) dX1_countPlaces_38 ?_
      refine lv_iload_n cx.1 cx.2.1 dX1_countPlaces_39 rfl (lv_at hl 2 rfl) ?_
      refine lv_icmp_gt (tgt := 92) cx.1 cx.2.1 dX1_countPlaces_40 (by decide) (fun c9 => ?_) (fun c9 => ?_)
      · rw [if_pos c9] at hf
        obtain ⟨y10, e11, hf⟩ := lt_elim hf
        refine lv_iinc (v := y10) (lv' := [(3, .int y10), (0, .ref (B + 115)), (1, .int x1), (2, .int x2)]) cx.1 cx.2.1 dX1_countPlaces_92 hl (k := 3) rfl (by rw [e11]; rfl) (by decide) rfl (fun ls hl => ?_)
        refine lv_goto (tgt := 25) cx.1 cx.2.1 dX1_countPlaces_95 (by decide) ?_
        exact ih _ _ _ _ _ hf _ _ _ wo (lv_sub hl [1, 2, 3, 0] rfl)
      · rw [if_neg c9] at hf
        refine lv_aload_n cx.1 cx.2.1 dX1_countPlaces_43 rfl (lv_at hl 0 rfl) ?_
        refine lv_iload_n cx.1 cx.2.1 dX1_countPlaces_44 rfl (lv_at hl 3 rfl) ?_
        obtain ⟨q12, e13, hf⟩ := bd_elim hf
        refine r_Vv (rest := []) cx wo (mX1_unpack l e13) cvX1_55 rfl ad_115.1 ad_115.2.1 ad_115.2.2 rfl rfl hl.1 rfl (Nat.le_of_ble_eq_true rfl) (hR_ok (by decide)) dX1_countPlaces_45 (fun H locs wo => ?_)
        refine lv_iconst (v := 0) cx.1 cx.2.1 dX1_countPlaces_48 (by decide) ?_
        refine lv_istore (lv' := [(4, .int 0), (0, .ref (B + 115)), (1, .int x1), (2, .int x2), (3, .int x3)]) cx.1 cx.2.1 dX1_countPlaces_49 hl (by decide) rfl (fun ls hl => ?_)
        exact wX1_countPlaces_51 cx hr hlk ih _ _ _ _ _ _ _ hf _ _ _ wo (lv_sub hl [1, 2, 3, 4, 0] rfl)
set_option maxHeartbeats 1000000 in
set_option maxRecDepth 10000 in
theorem wX1_countPlaces_2 (cx : Cx p s m args c cX1_countPlaces 5 RX1 G) (hr : meth.sig.returnType = none) (hlk : meth.locks = false) : ∀ (n : Nat) (x1 : Int32) (x2 : Int32) (x3 : Int32)  (M : Mem) (q : Mem), fX1_countPlaces_2 n x1 x2 x3 M = some q → ∀ (H : Heap) (locs : List Loc) (ls : Array Slot), Wo Ph G B 205 s M H locs → lv_has ls 5 [(0, .ref (B + 115)), (1, .int x1), (2, .int x2), (3, .int x3)] → W p l e (rmN (4)) s m args below meth c H locs 0 0 (MQ below (QcV Ph G B 205 q) args s 0 0 (fr B)) (F0 m 2 ls []) := by
  intro n
  induction n with
  | zero =>
    intro x1 x2 x3 M q hf H locs ls wo hl
    have hf : none = some q := hf
    cases hf
  | succ n ih =>
    intro x1 x2 x3 M q hf H locs ls wo hl
    rw [fX1_countPlaces_2] at hf
    refine lv_iload_n cx.1 cx.2.1 dX1_countPlaces_2 rfl (lv_at hl 3 rfl) ?_
    refine lv_aload_n cx.1 cx.2.1 dX1_countPlaces_3 rfl (lv_at hl 0 rfl) ?_
    refine r_getI cx wo ad_115.1 ad_115.2.1 ad_115.2.2 fiX1_9 dX1_countPlaces_4 ?_
    refine lv_icmp_ge (tgt := 23) cx.1 cx.2.1 dX1_countPlaces_7 (by decide) (fun c1 => ?_) (fun c1 => ?_)
    · rw [if_pos c1] at hf
      refine lv_iconst (v := 0) cx.1 cx.2.1 dX1_countPlaces_23 (by decide) ?_
      refine lv_istore_n (lv' := [(3, .int 0), (0, .ref (B + 115)), (1, .int x1), (2, .int x2)]) cx.1 cx.2.1 dX1_countPlaces_24 rfl hl (by decide) rfl (fun ls hl => ?_)
      exact wX1_countPlaces_25 cx hr hlk _ _ _ _ _ _ hf _ _ _ wo (lv_sub hl [1, 2, 3, 0] rfl)
    · rw [if_neg c1] at hf
      refine lv_aload_n cx.1 cx.2.1 dX1_countPlaces_10 rfl (lv_at hl 0 rfl) ?_
      refine r_getR cx wo ad_115.1 ad_115.2.1 ad_115.2.2 fiX1_24 (fn_115_7 wo.2.2.2.1) (by decide) dX1_countPlaces_11 ?_
      refine lv_iload_n cx.1 cx.2.1 dX1_countPlaces_14 rfl (lv_at hl 3 rfl) ?_
      refine lv_iconst (v := 0) cx.1 cx.2.1 dX1_countPlaces_15 (by decide) ?_
      obtain ⟨g2, hf⟩ := gd_elim hf
      obtain ⟨M3, e4, hf⟩ := lt_elim hf
      refine r_iast cx wo ad_138.1 ad_138.2.1 ad_138.2.2 (by rw [ln_138]; exact g2) dX1_countPlaces_16 (fun H locs wo => ?_)
      rw [← e4] at wo
      obtain ⟨y5, e6, hf⟩ := lt_elim hf
      refine lv_iinc (v := y5) (lv' := [(3, .int y5), (0, .ref (B + 115)), (1, .int x1), (2, .int x2)]) cx.1 cx.2.1 dX1_countPlaces_17 hl (k := 3) rfl (by rw [e6]; rfl) (by decide) rfl (fun ls hl => ?_)
      refine lv_goto (tgt := 2) cx.1 cx.2.1 dX1_countPlaces_20 (by decide) ?_
      exact ih _ _ _ _ _ hf _ _ _ wo (lv_sub hl [1, 2, 3, 0] rfl)
set_option maxHeartbeats 1000000 in
set_option maxRecDepth 10000 in
theorem mX1_countPlaces (l : Launch) {G : GG} {B : Nat} {x1 : Int32} {x2 : Int32}  {M : Mem} {q : Mem} (hf : fX1_countPlaces x1 x2 M = some q) : Met l yX1_countPlaces (wsG yX1_countPlaces cX1_countPlaces 5 none) (rmN (4)) (PcW Ph G B 205 M [.ref (B + 115), .int x1, .int x2]) (QcV Ph G B 205 q) 0 0 (fr B) := by
  refine mk_Met (own := RX1) rfl rfl (Nat.le_of_ble_eq_true rfl) ?_
  intro p e s m below meth c ls cx hr hlk wo hl
  have hl : lv_has ls 5 [(0, .ref (B + 115)), (1, .int x1), (2, .int x2)] := hl
  unfold fX1_countPlaces at hf
  refine lv_iconst (v := 0) cx.1 cx.2.1 dX1_countPlaces_0 (by decide) ?_
  refine lv_istore_n (lv' := [(3, .int 0), (0, .ref (B + 115)), (1, .int x1), (2, .int x2)]) cx.1 cx.2.1 dX1_countPlaces_1 rfl hl (by decide) rfl (fun ls hl => ?_)
  exact wX1_countPlaces_2 cx hr hlk _ _ _ _ _ _ hf _ _ _ wo (lv_sub hl [1, 2, 3, 0] rfl)
end Walk
