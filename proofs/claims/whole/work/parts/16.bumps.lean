/-! walks, by program -/
theorem dX9_sign_0 : decode cX9_sign 0 = .ok (.aload_n 0, 1) := by decide +kernel
theorem dX9_sign_1 : decode cX9_sign 1 = .ok (.getfield 10, 3) := by decide +kernel
theorem dX9_sign_4 : decode cX9_sign 4 = .ok (.getfield 107, 3) := by decide +kernel
theorem dX9_sign_7 : decode cX9_sign 7 = .ok (.iconst 4, 1) := by decide +kernel
theorem dX9_sign_8 : decode cX9_sign 8 = .ok (.iadd, 1) := by decide +kernel
theorem dX9_sign_9 : decode cX9_sign 9 = .ok (.bipush 80, 2) := by decide +kernel
theorem dX9_sign_11 : decode cX9_sign 11 = .ok (.if_icmp .le 5, 3) := by decide +kernel
theorem dX9_sign_14 : decode cX9_sign 14 = .ok (.iconst (-1), 1) := by decide +kernel
theorem dX9_sign_15 : decode cX9_sign 15 = .ok (.ireturn, 1) := by decide +kernel
theorem dX9_sign_16 : decode cX9_sign 16 = .ok (.bipush 24, 2) := by decide +kernel
theorem dX9_sign_18 : decode cX9_sign 18 = .ok (.istore_n 2, 1) := by decide +kernel
theorem dX9_sign_19 : decode cX9_sign 19 = .ok (.iload_n 2, 1) := by decide +kernel
theorem dX9_sign_20 : decode cX9_sign 20 = .ok (.ifCond .lt 23, 3) := by decide +kernel
theorem dX9_sign_23 : decode cX9_sign 23 = .ok (.aload_n 0, 1) := by decide +kernel
theorem dX9_sign_24 : decode cX9_sign 24 = .ok (.getfield 10, 3) := by decide +kernel
theorem dX9_sign_27 : decode cX9_sign 27 = .ok (.iload_n 1, 1) := by decide +kernel
theorem dX9_sign_28 : decode cX9_sign 28 = .ok (.iload_n 2, 1) := by decide +kernel
theorem dX9_sign_29 : decode cX9_sign 29 = .ok (.iushr, 1) := by decide +kernel
theorem dX9_sign_30 : decode cX9_sign 30 = .ok (.sipush 255, 3) := by decide +kernel
theorem dX9_sign_33 : decode cX9_sign 33 = .ok (.iand, 1) := by decide +kernel
theorem dX9_sign_34 : decode cX9_sign 34 = .ok (.invokevirtual 111, 3) := by decide +kernel
theorem dX9_sign_37 : decode cX9_sign 37 = .ok (.iinc 2 (-8), 3) := by decide +kernel
theorem dX9_sign_40 : decode cX9_sign 40 = .ok (.goto (-21), 3) := by decide +kernel
theorem dX9_sign_43 : decode cX9_sign 43 = .ok (.aload_n 0, 1) := by decide +kernel
theorem dX9_sign_44 : decode cX9_sign 44 = .ok (.getfield 10, 3) := by decide +kernel
theorem dX9_sign_47 : decode cX9_sign 47 = .ok (.getfield 107, 3) := by decide +kernel
theorem dX9_sign_50 : decode cX9_sign 50 = .ok (.ireturn, 1) := by decide +kernel
theorem dX9_end_0 : decode cX9_end 0 = .ok (.iload_n 1, 1) := by decide +kernel
theorem dX9_end_1 : decode cX9_end 1 = .ok (.ifCond .lt 14, 3) := by decide +kernel
theorem dX9_end_4 : decode cX9_end 4 = .ok (.iload_n 1, 1) := by decide +kernel
theorem dX9_end_5 : decode cX9_end 5 = .ok (.aload_n 0, 1) := by decide +kernel
theorem dX9_end_6 : decode cX9_end 6 = .ok (.getfield 10, 3) := by decide +kernel
theorem dX9_end_9 : decode cX9_end 9 = .ok (.getfield 107, 3) := by decide +kernel
theorem dX9_end_12 : decode cX9_end 12 = .ok (.if_icmp .le 5, 3) := by decide +kernel
theorem dX9_end_15 : decode cX9_end 15 = .ok (.iconst 0, 1) := by decide +kernel
theorem dX9_end_16 : decode cX9_end 16 = .ok (.ireturn, 1) := by decide +kernel
theorem dX9_end_17 : decode cX9_end 17 = .ok (.aload_n 0, 1) := by decide +kernel
theorem dX9_end_18 : decode cX9_end 18 = .ok (.getfield 10, 3) := by decide +kernel
theorem dX9_end_21 : decode cX9_end 21 = .ok (.iload_n 1, 1) := by decide +kernel
theorem dX9_end_22 : decode cX9_end 22 = .ok (.putfield 107, 3) := by decide +kernel
theorem dX9_end_25 : decode cX9_end 25 = .ok (.iconst 1, 1) := by decide +kernel
theorem dX9_end_26 : decode cX9_end 26 = .ok (.ireturn, 1) := by decide +kernel
theorem dX9_fitsLine_0 : decode cX9_fitsLine 0 = .ok (.iload_n 1, 1) := by decide +kernel
theorem dX9_fitsLine_1 : decode cX9_fitsLine 1 = .ok (.iconst 3, 1) := by decide +kernel
theorem dX9_fitsLine_2 : decode cX9_fitsLine 2 = .ok (.irem, 1) := by decide +kernel
theorem dX9_fitsLine_3 : decode cX9_fitsLine 3 = .ok (.lookupswitch 66 #[(0, 25), (1, 49)], 25) := by decide +kernel
theorem dX9_fitsLine_28 : decode cX9_fitsLine 28 = .ok (.iload_n 1, 1) := by decide +kernel
theorem dX9_fitsLine_29 : decode cX9_fitsLine 29 = .ok (.iconst 3, 1) := by decide +kernel
theorem dX9_fitsLine_30 : decode cX9_fitsLine 30 = .ok (.idiv, 1) := by decide +kernel
theorem dX9_fitsLine_31 : decode cX9_fitsLine 31 = .ok (.iload_n 2, 1) := by decide +kernel
theorem dX9_fitsLine_32 : decode cX9_fitsLine 32 = .ok (.if_icmp .ge 18, 3) := by decide +kernel
theorem dX9_fitsLine_35 : decode cX9_fitsLine 35 = .ok (.aload_n 0, 1) := by decide +kernel
theorem dX9_fitsLine_36 : decode cX9_fitsLine 36 = .ok (.getfield 10, 3) := by decide +kernel
theorem dX9_fitsLine_39 : decode cX9_fitsLine 39 = .ok (.iload_n 1, 1) := by decide +kernel
theorem dX9_fitsLine_40 : decode cX9_fitsLine 40 = .ok (.invokevirtual 119, 3) := by decide +kernel
theorem dX9_fitsLine_43 : decode cX9_fitsLine 43 = .ok (.ifCond .le 7, 3) := by decide +kernel
theorem dX9_fitsLine_46 : decode cX9_fitsLine 46 = .ok (.iconst 1, 1) := by decide +kernel
theorem dX9_fitsLine_47 : decode cX9_fitsLine 47 = .ok (.goto 4, 3) := by decide +kernel
theorem dX9_fitsLine_50 : decode cX9_fitsLine 50 = .ok (.iconst 0, 1) := by decide +kernel
theorem dX9_fitsLine_51 : decode cX9_fitsLine 51 = .ok (.ireturn, 1) := by decide +kernel
theorem dX9_fitsLine_52 : decode cX9_fitsLine 52 = .ok (.aload_n 0, 1) := by decide +kernel
theorem dX9_fitsLine_53 : decode cX9_fitsLine 53 = .ok (.getfield 10, 3) := by decide +kernel
theorem dX9_fitsLine_56 : decode cX9_fitsLine 56 = .ok (.iload_n 1, 1) := by decide +kernel
theorem dX9_fitsLine_57 : decode cX9_fitsLine 57 = .ok (.invokevirtual 119, 3) := by decide +kernel
theorem dX9_fitsLine_60 : decode cX9_fitsLine 60 = .ok (.ifCond .lt 7, 3) := by decide +kernel
theorem dX9_fitsLine_63 : decode cX9_fitsLine 63 = .ok (.iconst 1, 1) := by decide +kernel
theorem dX9_fitsLine_64 : decode cX9_fitsLine 64 = .ok (.goto 4, 3) := by decide +kernel
theorem dX9_fitsLine_67 : decode cX9_fitsLine 67 = .ok (.iconst 0, 1) := by decide +kernel
theorem dX9_fitsLine_68 : decode cX9_fitsLine 68 = .ok (.ireturn, 1) := by decide +kernel
theorem dX9_fitsLine_69 : decode cX9_fitsLine 69 = .ok (.aload_n 0, 1) := by decide +kernel
theorem dX9_fitsLine_70 : decode cX9_fitsLine 70 = .ok (.getfield 10, 3) := by decide +kernel
theorem dX9_fitsLine_73 : decode cX9_fitsLine 73 = .ok (.iload_n 1, 1) := by decide +kernel
theorem dX9_fitsLine_74 : decode cX9_fitsLine 74 = .ok (.invokevirtual 420, 3) := by decide +kernel
theorem dX9_fitsLine_77 : decode cX9_fitsLine 77 = .ok (.bipush 59, 2) := by decide +kernel
theorem dX9_fitsLine_79 : decode cX9_fitsLine 79 = .ok (.if_icmp .ne 7, 3) := by decide +kernel
theorem dX9_fitsLine_82 : decode cX9_fitsLine 82 = .ok (.iconst 1, 1) := by decide +kernel
theorem dX9_fitsLine_83 : decode cX9_fitsLine 83 = .ok (.goto 4, 3) := by decide +kernel
theorem dX9_fitsLine_86 : decode cX9_fitsLine 86 = .ok (.iconst 0, 1) := by decide +kernel
theorem dX9_fitsLine_87 : decode cX9_fitsLine 87 = .ok (.ireturn, 1) := by decide +kernel
theorem dX9_boatsFault_0 : decode cX9_boatsFault 0 = .ok (.bipush 6, 2) := by decide +kernel
theorem dX9_boatsFault_2 : decode cX9_boatsFault 2 = .ok (.aload_n 0, 1) := by decide +kernel
theorem dX9_boatsFault_3 : decode cX9_boatsFault 3 = .ok (.getfield 26, 3) := by decide +kernel
theorem dX9_boatsFault_6 : decode cX9_boatsFault 6 = .ok (.getfield 282, 3) := by decide +kernel
theorem dX9_boatsFault_9 : decode cX9_boatsFault 9 = .ok (.isub, 1) := by decide +kernel
theorem dX9_boatsFault_10 : decode cX9_boatsFault 10 = .ok (.istore_n 1, 1) := by decide +kernel
theorem dX9_boatsFault_11 : decode cX9_boatsFault 11 = .ok (.iconst 0, 1) := by decide +kernel
theorem dX9_boatsFault_12 : decode cX9_boatsFault 12 = .ok (.istore_n 2, 1) := by decide +kernel
theorem dX9_boatsFault_13 : decode cX9_boatsFault 13 = .ok (.iload_n 2, 1) := by decide +kernel
theorem dX9_boatsFault_14 : decode cX9_boatsFault 14 = .ok (.aload_n 0, 1) := by decide +kernel
theorem dX9_boatsFault_15 : decode cX9_boatsFault 15 = .ok (.getfield 10, 3) := by decide +kernel
theorem dX9_boatsFault_18 : decode cX9_boatsFault 18 = .ok (.getfield 107, 3) := by decide +kernel
theorem dX9_boatsFault_21 : decode cX9_boatsFault 21 = .ok (.if_icmp .ge 26, 3) := by decide +kernel
theorem dX9_boatsFault_24 : decode cX9_boatsFault 24 = .ok (.iload_n 2, 1) := by decide +kernel
theorem dX9_boatsFault_25 : decode cX9_boatsFault 25 = .ok (.bipush 17, 2) := by decide +kernel
theorem dX9_boatsFault_27 : decode cX9_boatsFault 27 = .ok (.if_icmp .ge 12, 3) := by decide +kernel
theorem dX9_boatsFault_30 : decode cX9_boatsFault 30 = .ok (.aload_n 0, 1) := by decide +kernel
theorem dX9_boatsFault_31 : decode cX9_boatsFault 31 = .ok (.iload_n 2, 1) := by decide +kernel
theorem dX9_boatsFault_32 : decode cX9_boatsFault 32 = .ok (.iload_n 1, 1) := by decide +kernel
theorem dX9_boatsFault_33 : decode cX9_boatsFault 33 = .ok (.invokevirtual 417, 3) := by decide +kernel
theorem dX9_boatsFault_36 : decode cX9_boatsFault 36 = .ok (.ifCond .ne 5, 3) := by decide +kernel
theorem dX9_boatsFault_39 : decode cX9_boatsFault 39 = .ok (.iload_n 2, 1) := by decide +kernel
theorem dX9_boatsFault_40 : decode cX9_boatsFault 40 = .ok (.ireturn, 1) := by decide +kernel
theorem dX9_boatsFault_41 : decode cX9_boatsFault 41 = .ok (.iinc 2 1, 3) := by decide +kernel
theorem dX9_boatsFault_44 : decode cX9_boatsFault 44 = .ok (.goto (-31), 3) := by decide +kernel
theorem dX9_boatsFault_47 : decode cX9_boatsFault 47 = .ok (.aload_n 0, 1) := by decide +kernel
theorem dX9_boatsFault_48 : decode cX9_boatsFault 48 = .ok (.getfield 10, 3) := by decide +kernel
theorem dX9_boatsFault_51 : decode cX9_boatsFault 51 = .ok (.getfield 107, 3) := by decide +kernel
theorem dX9_boatsFault_54 : decode cX9_boatsFault 54 = .ok (.ifCond .eq 16, 3) := by decide +kernel
theorem dX9_boatsFault_57 : decode cX9_boatsFault 57 = .ok (.aload_n 0, 1) := by decide +kernel
theorem dX9_boatsFault_58 : decode cX9_boatsFault 58 = .ok (.getfield 10, 3) := by decide +kernel
theorem dX9_boatsFault_61 : decode cX9_boatsFault 61 = .ok (.getfield 107, 3) := by decide +kernel
theorem dX9_boatsFault_64 : decode cX9_boatsFault 64 = .ok (.iconst 3, 1) := by decide +kernel
theorem dX9_boatsFault_65 : decode cX9_boatsFault 65 = .ok (.irem, 1) := by decide +kernel
theorem dX9_boatsFault_66 : decode cX9_boatsFault 66 = .ok (.iconst 2, 1) := by decide +kernel
theorem dX9_boatsFault_67 : decode cX9_boatsFault 67 = .ok (.if_icmp .ne 7, 3) := by decide +kernel
theorem dX9_boatsFault_70 : decode cX9_boatsFault 70 = .ok (.iconst (-1), 1) := by decide +kernel
theorem dX9_boatsFault_71 : decode cX9_boatsFault 71 = .ok (.goto 10, 3) := by decide +kernel
theorem dX9_boatsFault_74 : decode cX9_boatsFault 74 = .ok (.aload_n 0, 1) := by decide +kernel
theorem dX9_boatsFault_75 : decode cX9_boatsFault 75 = .ok (.getfield 10, 3) := by decide +kernel
theorem dX9_boatsFault_78 : decode cX9_boatsFault 78 = .ok (.getfield 107, 3) := by decide +kernel
theorem dX9_boatsFault_81 : decode cX9_boatsFault 81 = .ok (.ireturn, 1) := by decide +kernel
theorem dX9_forgetKept_0 : decode cX9_forgetKept 0 = .ok (.iconst 0, 1) := by decide +kernel
theorem dX9_forgetKept_1 : decode cX9_forgetKept 1 = .ok (.istore_n 1, 1) := by decide +kernel
theorem dX9_forgetKept_2 : decode cX9_forgetKept 2 = .ok (.iload_n 1, 1) := by decide +kernel
theorem dX9_forgetKept_3 : decode cX9_forgetKept 3 = .ok (.iconst 3, 1) := by decide +kernel
theorem dX9_forgetKept_4 : decode cX9_forgetKept 4 = .ok (.if_icmp .ge 16, 3) := by decide +kernel
theorem dX9_forgetKept_7 : decode cX9_forgetKept 7 = .ok (.aload_n 0, 1) := by decide +kernel
theorem dX9_forgetKept_8 : decode cX9_forgetKept 8 = .ok (.getfield 50, 3) := by decide +kernel
theorem dX9_forgetKept_11 : decode cX9_forgetKept 11 = .ok (.iload_n 1, 1) := by decide +kernel
theorem dX9_forgetKept_12 : decode cX9_forgetKept 12 = .ok (.iconst 0, 1) := by decide +kernel
theorem dX9_forgetKept_13 : decode cX9_forgetKept 13 = .ok (.bastore, 1) := by decide +kernel
theorem dX9_forgetKept_14 : decode cX9_forgetKept 14 = .ok (.iinc 1 1, 3) := by decide +kernel
theorem dX9_forgetKept_17 : decode cX9_forgetKept 17 = .ok (.goto (-15), 3) := by decide +kernel
theorem dX9_forgetKept_20 : decode cX9_forgetKept 20 = .ok (.return_, 1) := by decide +kernel
theorem dX9_boats_0 : decode cX9_boats 0 = .ok (.aload_n 0, 1) := by decide +kernel
theorem dX9_boats_1 : decode cX9_boats 1 = .ok (.invokevirtual 115, 3) := by decide +kernel
theorem dX9_boats_4 : decode cX9_boats 4 = .ok (.istore_n 1, 1) := by decide +kernel
theorem dX9_boats_5 : decode cX9_boats 5 = .ok (.iload_n 1, 1) := by decide +kernel
theorem dX9_boats_6 : decode cX9_boats 6 = .ok (.ifCond .lt 7, 3) := by decide +kernel
theorem dX9_boats_9 : decode cX9_boats 9 = .ok (.iconst 0, 1) := by decide +kernel
theorem dX9_boats_10 : decode cX9_boats 10 = .ok (.goto 14, 3) := by decide +kernel
theorem dX9_boats_13 : decode cX9_boats 13 = .ok (.aload_n 0, 1) := by decide +kernel
theorem dX9_boats_14 : decode cX9_boats 14 = .ok (.getfield 10, 3) := by decide +kernel
theorem dX9_boats_17 : decode cX9_boats 17 = .ok (.getfield 107, 3) := by decide +kernel
theorem dX9_boats_20 : decode cX9_boats 20 = .ok (.iconst 1, 1) := by decide +kernel
theorem dX9_boats_21 : decode cX9_boats 21 = .ok (.iadd, 1) := by decide +kernel
theorem dX9_boats_22 : decode cX9_boats 22 = .ok (.iconst 3, 1) := by decide +kernel
theorem dX9_boats_23 : decode cX9_boats 23 = .ok (.idiv, 1) := by decide +kernel
theorem dX9_boats_24 : decode cX9_boats 24 = .ok (.istore_n 2, 1) := by decide +kernel
theorem dX9_boats_25 : decode cX9_boats 25 = .ok (.iconst 0, 1) := by decide +kernel
theorem dX9_boats_26 : decode cX9_boats 26 = .ok (.istore_n 3, 1) := by decide +kernel
theorem dX9_boats_27 : decode cX9_boats 27 = .ok (.iload_n 3, 1) := by decide +kernel
theorem dX9_boats_28 : decode cX9_boats 28 = .ok (.iload_n 2, 1) := by decide +kernel
theorem dX9_boats_29 : decode cX9_boats 29 = .ok (.if_icmp .ge 38, 3) := by decide +kernel
theorem dX9_boats_32 : decode cX9_boats 32 = .ok (.aload_n 0, 1) := by decide +kernel
theorem dX9_boats_33 : decode cX9_boats 33 = .ok (.getfield 26, 3) := by decide +kernel
theorem dX9_boats_36 : decode cX9_boats 36 = .ok (.aload_n 0, 1) := by decide +kernel
theorem dX9_boats_37 : decode cX9_boats 37 = .ok (.getfield 10, 3) := by decide +kernel
theorem dX9_boats_40 : decode cX9_boats 40 = .ok (.iconst 3, 1) := by decide +kernel
theorem dX9_boats_41 : decode cX9_boats 41 = .ok (.iload_n 3, 1) := by decide +kernel
theorem dX9_boats_42 : decode cX9_boats 42 = .ok (.imul, 1) := by decide +kernel
theorem dX9_boats_43 : decode cX9_boats 43 = .ok (.invokevirtual 119, 3) := by decide +kernel
theorem dX9_boats_46 : decode cX9_boats 46 = .ok (.aload_n 0, 1) := by decide +kernel
theorem dX9_boats_47 : decode cX9_boats 47 = .ok (.getfield 10, 3) := by decide +kernel
theorem dX9_boats_50 : decode cX9_boats 50 = .ok (.iconst 3, 1) := by decide +kernel
theorem dX9_boats_51 : decode cX9_boats 51 = .ok (.iload_n 3, 1) := by decide +kernel
theorem dX9_boats_52 : decode cX9_boats 52 = .ok (.imul, 1) := by decide +kernel
theorem dX9_boats_53 : decode cX9_boats 53 = .ok (.iconst 1, 1) := by decide +kernel
theorem dX9_boats_54 : decode cX9_boats 54 = .ok (.iadd, 1) := by decide +kernel
theorem dX9_boats_55 : decode cX9_boats 55 = .ok (.invokevirtual 119, 3) := by decide +kernel
theorem dX9_boats_58 : decode cX9_boats 58 = .ok (.invokevirtual 123, 3) := by decide +kernel
theorem dX9_boats_61 : decode cX9_boats 61 = .ok (.iinc 3 1, 3) := by decide +kernel
theorem dX9_boats_64 : decode cX9_boats 64 = .ok (.goto (-37), 3) := by decide +kernel
theorem dX9_boats_67 : decode cX9_boats 67 = .ok (.iload_n 2, 1) := by decide +kernel
theorem dX9_boats_68 : decode cX9_boats 68 = .ok (.ifCond .le 15, 3) := by decide +kernel
theorem dX9_boats_71 : decode cX9_boats 71 = .ok (.aload_n 0, 1) := by decide +kernel
theorem dX9_boats_72 : decode cX9_boats 72 = .ok (.getfield 42, 3) := by decide +kernel
theorem dX9_boats_75 : decode cX9_boats 75 = .ok (.iconst 0, 1) := by decide +kernel
theorem dX9_boats_76 : decode cX9_boats 76 = .ok (.putfield 127, 3) := by decide +kernel
theorem dX9_boats_79 : decode cX9_boats 79 = .ok (.aload_n 0, 1) := by decide +kernel
theorem dX9_boats_80 : decode cX9_boats 80 = .ok (.invokevirtual 128, 3) := by decide +kernel
theorem dX9_boats_83 : decode cX9_boats 83 = .ok (.aload_n 0, 1) := by decide +kernel
theorem dX9_boats_84 : decode cX9_boats 84 = .ok (.getfield 10, 3) := by decide +kernel
theorem dX9_boats_87 : decode cX9_boats 87 = .ok (.iconst 0, 1) := by decide +kernel
theorem dX9_boats_88 : decode cX9_boats 88 = .ok (.putfield 107, 3) := by decide +kernel
theorem dX9_boats_91 : decode cX9_boats 91 = .ok (.iload_n 1, 1) := by decide +kernel
theorem dX9_boats_92 : decode cX9_boats 92 = .ok (.ifCond .lt 9, 3) := by decide +kernel
theorem dX9_boats_95 : decode cX9_boats 95 = .ok (.iconst (-1), 1) := by decide +kernel
theorem dX9_boats_96 : decode cX9_boats 96 = .ok (.iload_n 1, 1) := by decide +kernel
theorem dX9_boats_97 : decode cX9_boats 97 = .ok (.isub, 1) := by decide +kernel
theorem dX9_boats_98 : decode cX9_boats 98 = .ok (.goto 4, 3) := by decide +kernel
theorem dX9_boats_101 : decode cX9_boats 101 = .ok (.iload_n 2, 1) := by decide +kernel
theorem dX9_boats_102 : decode cX9_boats 102 = .ok (.ireturn, 1) := by decide +kernel
theorem dX9_rule_0 : decode cX9_rule 0 = .ok (.aload_n 0, 1) := by decide +kernel
theorem dX9_rule_1 : decode cX9_rule 1 = .ok (.getfield 104, 3) := by decide +kernel
theorem dX9_rule_4 : decode cX9_rule 4 = .ok (.invokevirtual 131, 3) := by decide +kernel
theorem dX9_rule_7 : decode cX9_rule 7 = .ok (.istore_n 1, 1) := by decide +kernel
theorem dX9_rule_8 : decode cX9_rule 8 = .ok (.aload_n 0, 1) := by decide +kernel
theorem dX9_rule_9 : decode cX9_rule 9 = .ok (.getfield 10, 3) := by decide +kernel
theorem dX9_rule_12 : decode cX9_rule 12 = .ok (.iconst 0, 1) := by decide +kernel
theorem dX9_rule_13 : decode cX9_rule 13 = .ok (.putfield 107, 3) := by decide +kernel
theorem dX9_rule_16 : decode cX9_rule 16 = .ok (.iload_n 1, 1) := by decide +kernel
theorem dX9_rule_17 : decode cX9_rule 17 = .ok (.ifCond .lt 7, 3) := by decide +kernel
theorem dX9_rule_20 : decode cX9_rule 20 = .ok (.iconst (-1), 1) := by decide +kernel
theorem dX9_rule_21 : decode cX9_rule 21 = .ok (.iload_n 1, 1) := by decide +kernel
theorem dX9_rule_22 : decode cX9_rule 22 = .ok (.isub, 1) := by decide +kernel
theorem dX9_rule_23 : decode cX9_rule 23 = .ok (.ireturn, 1) := by decide +kernel
theorem dX9_rule_24 : decode cX9_rule 24 = .ok (.aload_n 0, 1) := by decide +kernel
theorem dX9_rule_25 : decode cX9_rule 25 = .ok (.getfield 100, 3) := by decide +kernel
theorem dX9_rule_28 : decode cX9_rule 28 = .ok (.astore_n 2, 1) := by decide +kernel
theorem dX9_rule_29 : decode cX9_rule 29 = .ok (.aload_n 0, 1) := by decide +kernel
theorem dX9_rule_30 : decode cX9_rule 30 = .ok (.aload_n 0, 1) := by decide +kernel
theorem dX9_rule_31 : decode cX9_rule 31 = .ok (.getfield 104, 3) := by decide +kernel
theorem dX9_rule_34 : decode cX9_rule 34 = .ok (.putfield 100, 3) := by decide +kernel
theorem dX9_rule_37 : decode cX9_rule 37 = .ok (.aload_n 0, 1) := by decide +kernel
theorem dX9_rule_38 : decode cX9_rule 38 = .ok (.aload_n 2, 1) := by decide +kernel
theorem dX9_rule_39 : decode cX9_rule 39 = .ok (.putfield 104, 3) := by decide +kernel
theorem dX9_rule_42 : decode cX9_rule 42 = .ok (.iconst 0, 1) := by decide +kernel
theorem dX9_rule_43 : decode cX9_rule 43 = .ok (.ireturn, 1) := by decide +kernel
theorem dX9_sheet_0 : decode cX9_sheet 0 = .ok (.iload_n 1, 1) := by decide +kernel
theorem dX9_sheet_1 : decode cX9_sheet 1 = .ok (.ifCond .lt 14, 3) := by decide +kernel
theorem dX9_sheet_4 : decode cX9_sheet 4 = .ok (.iload_n 1, 1) := by decide +kernel
theorem dX9_sheet_5 : decode cX9_sheet 5 = .ok (.iconst 3, 1) := by decide +kernel
theorem dX9_sheet_6 : decode cX9_sheet 6 = .ok (.if_icmp .gt 9, 3) := by decide +kernel
theorem dX9_sheet_9 : decode cX9_sheet 9 = .ok (.iload_n 2, 1) := by decide +kernel
theorem dX9_sheet_10 : decode cX9_sheet 10 = .ok (.bipush 6, 2) := by decide +kernel
theorem dX9_sheet_12 : decode cX9_sheet 12 = .ok (.if_icmp .le 5, 3) := by decide +kernel
theorem dX9_sheet_15 : decode cX9_sheet 15 = .ok (.iconst (-1), 1) := by decide +kernel
theorem dX9_sheet_16 : decode cX9_sheet 16 = .ok (.ireturn, 1) := by decide +kernel
theorem dX9_sheet_17 : decode cX9_sheet 17 = .ok (.iload_n 1, 1) := by decide +kernel
theorem dX9_sheet_18 : decode cX9_sheet 18 = .ok (.iconst 3, 1) := by decide +kernel
theorem dX9_sheet_19 : decode cX9_sheet 19 = .ok (.if_icmp .ne 18, 3) := by decide +kernel
theorem dX9_sheet_22 : decode cX9_sheet 22 = .ok (.aload_n 0, 1) := by decide +kernel
theorem dX9_sheet_23 : decode cX9_sheet 23 = .ok (.getfield 26, 3) := by decide +kernel
theorem dX9_sheet_26 : decode cX9_sheet 26 = .ok (.iload_n 1, 1) := by decide +kernel
theorem dX9_sheet_27 : decode cX9_sheet 27 = .ok (.iconst 0, 1) := by decide +kernel
theorem dX9_sheet_28 : decode cX9_sheet 28 = .ok (.iload_n 3, 1) := by decide +kernel
theorem dX9_sheet_29 : decode cX9_sheet 29 = .ok (.iload 4, 2) := by decide +kernel
theorem dX9_sheet_31 : decode cX9_sheet 31 = .ok (.invokevirtual 171, 3) := by decide +kernel
theorem dX9_sheet_34 : decode cX9_sheet 34 = .ok (.bipush (-3), 2) := by decide +kernel
theorem dX9_sheet_36 : decode cX9_sheet 36 = .ok (.ireturn, 1) := by decide +kernel
theorem dX9_sheet_37 : decode cX9_sheet 37 = .ok (.iload_n 2, 1) := by decide +kernel
theorem dX9_sheet_38 : decode cX9_sheet 38 = .ok (.ifCond .ge 6, 3) := by decide +kernel
theorem dX9_sheet_41 : decode cX9_sheet 41 = .ok (.bipush (-2), 2) := by decide +kernel
theorem dX9_sheet_43 : decode cX9_sheet 43 = .ok (.ireturn, 1) := by decide +kernel
theorem dX9_sheet_44 : decode cX9_sheet 44 = .ok (.aload_n 0, 1) := by decide +kernel
theorem dX9_sheet_45 : decode cX9_sheet 45 = .ok (.getfield 26, 3) := by decide +kernel
theorem dX9_sheet_48 : decode cX9_sheet 48 = .ok (.iload_n 1, 1) := by decide +kernel
theorem dX9_sheet_49 : decode cX9_sheet 49 = .ok (.iload_n 2, 1) := by decide +kernel
theorem dX9_sheet_50 : decode cX9_sheet 50 = .ok (.iload_n 3, 1) := by decide +kernel
theorem dX9_sheet_51 : decode cX9_sheet 51 = .ok (.iload 4, 2) := by decide +kernel
theorem dX9_sheet_53 : decode cX9_sheet 53 = .ok (.invokevirtual 171, 3) := by decide +kernel
theorem dX9_sheet_56 : decode cX9_sheet 56 = .ok (.aload_n 0, 1) := by decide +kernel
theorem dX9_sheet_57 : decode cX9_sheet 57 = .ok (.getfield 26, 3) := by decide +kernel
theorem dX9_sheet_60 : decode cX9_sheet 60 = .ok (.invokevirtual 175, 3) := by decide +kernel
theorem dX9_sheet_63 : decode cX9_sheet 63 = .ok (.ireturn, 1) := by decide +kernel
theorem dX9_passDays_0 : decode cX9_passDays 0 = .ok (.iconst 0, 1) := by decide +kernel
theorem dX9_passDays_1 : decode cX9_passDays 1 = .ok (.istore 4, 2) := by decide +kernel
theorem dX9_passDays_3 : decode cX9_passDays 3 = .ok (.iconst 0, 1) := by decide +kernel
theorem dX9_passDays_4 : decode cX9_passDays 4 = .ok (.istore 5, 2) := by decide +kernel
theorem dX9_passDays_6 : decode cX9_passDays 6 = .ok (.iload 5, 2) := by decide +kernel
theorem dX9_passDays_8 : decode cX9_passDays 8 = .ok (.iload_n 3, 1) := by decide +kernel
theorem dX9_passDays_9 : decode cX9_passDays 9 = .ok (.if_icmp .ge 38, 3) := by decide +kernel
theorem dX9_passDays_12 : decode cX9_passDays 12 = .ok (.aload_n 0, 1) := by decide +kernel
theorem dX9_passDays_13 : decode cX9_passDays 13 = .ok (.getfield 64, 3) := by decide +kernel
theorem dX9_passDays_16 : decode cX9_passDays 16 = .ok (.aload_n 1, 1) := by decide +kernel
theorem dX9_passDays_17 : decode cX9_passDays 17 = .ok (.aload_n 2, 1) := by decide +kernel
theorem dX9_passDays_18 : decode cX9_passDays 18 = .ok (.invokevirtual 157, 3) := by decide +kernel
theorem dX9_passDays_21 : decode cX9_passDays 21 = .ok (.aload_n 0, 1) := by decide +kernel
theorem dX9_passDays_22 : decode cX9_passDays 22 = .ok (.getfield 64, 3) := by decide +kernel
theorem dX9_passDays_25 : decode cX9_passDays 25 = .ok (.aload_n 1, 1) := by decide +kernel
theorem dX9_passDays_26 : decode cX9_passDays 26 = .ok (.invokevirtual 423, 3) := by decide +kernel
theorem dX9_passDays_29 : decode cX9_passDays 29 = .ok (.iload 4, 2) := by decide +kernel
theorem dX9_passDays_31 : decode cX9_passDays 31 = .ok (.aload_n 0, 1) := by decide +kernel
theorem dX9_passDays_32 : decode cX9_passDays 32 = .ok (.getfield 64, 3) := by decide +kernel
theorem dX9_passDays_35 : decode cX9_passDays 35 = .ok (.getfield 236, 3) := by decide +kernel
theorem dX9_passDays_38 : decode cX9_passDays 38 = .ok (.iadd, 1) := by decide +kernel
theorem dX9_passDays_39 : decode cX9_passDays 39 = .ok (.istore 4, 2) := by decide +kernel
theorem dX9_passDays_41 : decode cX9_passDays 41 = .ok (.iinc 5 1, 3) := by decide +kernel
theorem dX9_passDays_44 : decode cX9_passDays 44 = .ok (.goto (-38), 3) := by decide +kernel
theorem dX9_passDays_47 : decode cX9_passDays 47 = .ok (.iload 4, 2) := by decide +kernel
theorem dX9_passDays_49 : decode cX9_passDays 49 = .ok (.ireturn, 1) := by decide +kernel
theorem dX9_days_0 : decode cX9_days 0 = .ok (.iload_n 1, 1) := by decide +kernel
theorem dX9_days_1 : decode cX9_days 1 = .ok (.ifCond .lt 9, 3) := by decide +kernel
theorem dX9_days_4 : decode cX9_days 4 = .ok (.iload_n 1, 1) := by decide +kernel
theorem dX9_days_5 : decode cX9_days 5 = .ok (.bipush 60, 2) := by decide +kernel
theorem dX9_days_7 : decode cX9_days 7 = .ok (.if_icmp .le 6, 3) := by decide +kernel
theorem dX9_days_10 : decode cX9_days 10 = .ok (.bipush (-2), 2) := by decide +kernel
theorem dX9_days_12 : decode cX9_days 12 = .ok (.ireturn, 1) := by decide +kernel
theorem dX9_days_13 : decode cX9_days 13 = .ok (.aload_n 0, 1) := by decide +kernel
theorem dX9_days_14 : decode cX9_days 14 = .ok (.getfield 42, 3) := by decide +kernel
theorem dX9_days_17 : decode cX9_days 17 = .ok (.aload_n 0, 1) := by decide +kernel
theorem dX9_days_18 : decode cX9_days 18 = .ok (.getfield 26, 3) := by decide +kernel
theorem dX9_days_21 : decode cX9_days 21 = .ok (.invokevirtual 178, 3) := by decide +kernel
theorem dX9_days_24 : decode cX9_days 24 = .ok (.aload_n 0, 1) := by decide +kernel
theorem dX9_days_25 : decode cX9_days 25 = .ok (.getfield 19, 3) := by decide +kernel
theorem dX9_days_28 : decode cX9_days 28 = .ok (.aload_n 0, 1) := by decide +kernel
theorem dX9_days_29 : decode cX9_days 29 = .ok (.aload_n 0, 1) := by decide +kernel
theorem dX9_days_30 : decode cX9_days 30 = .ok (.getfield 26, 3) := by decide +kernel
theorem dX9_days_33 : decode cX9_days 33 = .ok (.aload_n 0, 1) := by decide +kernel
theorem dX9_days_34 : decode cX9_days 34 = .ok (.getfield 100, 3) := by decide +kernel
theorem dX9_days_37 : decode cX9_days 37 = .ok (.iload_n 1, 1) := by decide +kernel
theorem dX9_days_38 : decode cX9_days 38 = .ok (.invokevirtual 182, 3) := by decide +kernel
theorem dX9_days_41 : decode cX9_days 41 = .ok (.i2l, 1) := by decide +kernel
theorem dX9_days_42 : decode cX9_days 42 = .ok (.invokevirtual 186, 3) := by decide +kernel
theorem dX9_days_45 : decode cX9_days 45 = .ok (.aload_n 0, 1) := by decide +kernel
theorem dX9_days_46 : decode cX9_days 46 = .ok (.getfield 26, 3) := by decide +kernel
theorem dX9_days_49 : decode cX9_days 49 = .ok (.iconst 0, 1) := by decide +kernel
theorem dX9_days_50 : decode cX9_days 50 = .ok (.invokevirtual 154, 3) := by decide +kernel
theorem dX9_days_53 : decode cX9_days 53 = .ok (.ireturn, 1) := by decide +kernel
theorem dX9_noted_0 : decode cX9_noted 0 = .ok (.iload_n 1, 1) := by decide +kernel
theorem dX9_noted_1 : decode cX9_noted 1 = .ok (.ifCond .lt 14, 3) := by decide +kernel
theorem dX9_noted_4 : decode cX9_noted 4 = .ok (.aload_n 0, 1) := by decide +kernel
theorem dX9_noted_5 : decode cX9_noted 5 = .ok (.getfield 42, 3) := by decide +kernel
theorem dX9_noted_8 : decode cX9_noted 8 = .ok (.aload_n 0, 1) := by decide +kernel
theorem dX9_noted_9 : decode cX9_noted 9 = .ok (.getfield 30, 3) := by decide +kernel
theorem dX9_noted_12 : decode cX9_noted 12 = .ok (.invokevirtual 178, 3) := by decide +kernel
theorem dX9_noted_15 : decode cX9_noted 15 = .ok (.iload_n 1, 1) := by decide +kernel
theorem dX9_noted_16 : decode cX9_noted 16 = .ok (.ireturn, 1) := by decide +kernel
theorem dX9_scratches_0 : decode cX9_scratches 0 = .ok (.aload_n 0, 1) := by decide +kernel
theorem dX9_scratches_1 : decode cX9_scratches 1 = .ok (.getfield 30, 3) := by decide +kernel
theorem dX9_scratches_4 : decode cX9_scratches 4 = .ok (.aload_n 0, 1) := by decide +kernel
theorem dX9_scratches_5 : decode cX9_scratches 5 = .ok (.getfield 26, 3) := by decide +kernel
theorem dX9_scratches_8 : decode cX9_scratches 8 = .ok (.invokevirtual 190, 3) := by decide +kernel
theorem dX9_scratches_11 : decode cX9_scratches 11 = .ok (.aload_n 0, 1) := by decide +kernel
theorem dX9_scratches_12 : decode cX9_scratches 12 = .ok (.aload_n 0, 1) := by decide +kernel
theorem dX9_scratches_13 : decode cX9_scratches 13 = .ok (.getfield 26, 3) := by decide +kernel
theorem dX9_scratches_16 : decode cX9_scratches 16 = .ok (.iload_n 1, 1) := by decide +kernel
theorem dX9_scratches_17 : decode cX9_scratches 17 = .ok (.invokevirtual 193, 3) := by decide +kernel
theorem dX9_scratches_20 : decode cX9_scratches 20 = .ok (.invokevirtual 196, 3) := by decide +kernel
theorem dX9_scratches_23 : decode cX9_scratches 23 = .ok (.ireturn, 1) := by decide +kernel
theorem dX9_rests_0 : decode cX9_rests 0 = .ok (.aload_n 0, 1) := by decide +kernel
theorem dX9_rests_1 : decode cX9_rests 1 = .ok (.getfield 30, 3) := by decide +kernel
theorem dX9_rests_4 : decode cX9_rests 4 = .ok (.aload_n 0, 1) := by decide +kernel
theorem dX9_rests_5 : decode cX9_rests 5 = .ok (.getfield 26, 3) := by decide +kernel
theorem dX9_rests_8 : decode cX9_rests 8 = .ok (.invokevirtual 190, 3) := by decide +kernel
theorem dX9_rests_11 : decode cX9_rests 11 = .ok (.aload_n 0, 1) := by decide +kernel
theorem dX9_rests_12 : decode cX9_rests 12 = .ok (.aload_n 0, 1) := by decide +kernel
theorem dX9_rests_13 : decode cX9_rests 13 = .ok (.getfield 26, 3) := by decide +kernel
theorem dX9_rests_16 : decode cX9_rests 16 = .ok (.iload_n 1, 1) := by decide +kernel
theorem dX9_rests_17 : decode cX9_rests 17 = .ok (.invokevirtual 199, 3) := by decide +kernel
theorem dX9_rests_20 : decode cX9_rests 20 = .ok (.invokevirtual 196, 3) := by decide +kernel
theorem dX9_rests_23 : decode cX9_rests 23 = .ok (.ireturn, 1) := by decide +kernel
theorem dX9_paces_0 : decode cX9_paces 0 = .ok (.aload_n 0, 1) := by decide +kernel
theorem dX9_paces_1 : decode cX9_paces 1 = .ok (.getfield 30, 3) := by decide +kernel
theorem dX9_paces_4 : decode cX9_paces 4 = .ok (.aload_n 0, 1) := by decide +kernel
theorem dX9_paces_5 : decode cX9_paces 5 = .ok (.getfield 26, 3) := by decide +kernel
theorem dX9_paces_8 : decode cX9_paces 8 = .ok (.invokevirtual 190, 3) := by decide +kernel
theorem dX9_paces_11 : decode cX9_paces 11 = .ok (.aload_n 0, 1) := by decide +kernel
theorem dX9_paces_12 : decode cX9_paces 12 = .ok (.aload_n 0, 1) := by decide +kernel
theorem dX9_paces_13 : decode cX9_paces 13 = .ok (.getfield 26, 3) := by decide +kernel
theorem dX9_paces_16 : decode cX9_paces 16 = .ok (.iload_n 1, 1) := by decide +kernel
theorem dX9_paces_17 : decode cX9_paces 17 = .ok (.iload_n 2, 1) := by decide +kernel
theorem dX9_paces_18 : decode cX9_paces 18 = .ok (.invokevirtual 202, 3) := by decide +kernel
theorem dX9_paces_21 : decode cX9_paces 21 = .ok (.invokevirtual 196, 3) := by decide +kernel
theorem dX9_paces_24 : decode cX9_paces 24 = .ok (.ireturn, 1) := by decide +kernel
theorem dX9_gap_0 : decode cX9_gap 0 = .ok (.aload_n 0, 1) := by decide +kernel
theorem dX9_gap_1 : decode cX9_gap 1 = .ok (.getfield 30, 3) := by decide +kernel
theorem dX9_gap_4 : decode cX9_gap 4 = .ok (.aload_n 0, 1) := by decide +kernel
theorem dX9_gap_5 : decode cX9_gap 5 = .ok (.getfield 26, 3) := by decide +kernel
theorem dX9_gap_8 : decode cX9_gap 8 = .ok (.invokevirtual 190, 3) := by decide +kernel
theorem dX9_gap_11 : decode cX9_gap 11 = .ok (.aload_n 0, 1) := by decide +kernel
theorem dX9_gap_12 : decode cX9_gap 12 = .ok (.aload_n 0, 1) := by decide +kernel
theorem dX9_gap_13 : decode cX9_gap 13 = .ok (.getfield 26, 3) := by decide +kernel
theorem dX9_gap_16 : decode cX9_gap 16 = .ok (.iload_n 1, 1) := by decide +kernel
theorem dX9_gap_17 : decode cX9_gap 17 = .ok (.invokevirtual 206, 3) := by decide +kernel
theorem dX9_gap_20 : decode cX9_gap 20 = .ok (.invokevirtual 196, 3) := by decide +kernel
theorem dX9_gap_23 : decode cX9_gap 23 = .ok (.ireturn, 1) := by decide +kernel
theorem dX9_strokes_0 : decode cX9_strokes 0 = .ok (.aload_n 0, 1) := by decide +kernel
theorem dX9_strokes_1 : decode cX9_strokes 1 = .ok (.getfield 30, 3) := by decide +kernel
theorem dX9_strokes_4 : decode cX9_strokes 4 = .ok (.aload_n 0, 1) := by decide +kernel
theorem dX9_strokes_5 : decode cX9_strokes 5 = .ok (.getfield 26, 3) := by decide +kernel
theorem dX9_strokes_8 : decode cX9_strokes 8 = .ok (.invokevirtual 190, 3) := by decide +kernel
theorem dX9_strokes_11 : decode cX9_strokes 11 = .ok (.aload_n 0, 1) := by decide +kernel
theorem dX9_strokes_12 : decode cX9_strokes 12 = .ok (.aload_n 0, 1) := by decide +kernel
theorem dX9_strokes_13 : decode cX9_strokes 13 = .ok (.getfield 26, 3) := by decide +kernel
theorem dX9_strokes_16 : decode cX9_strokes 16 = .ok (.iload_n 1, 1) := by decide +kernel
theorem dX9_strokes_17 : decode cX9_strokes 17 = .ok (.invokevirtual 209, 3) := by decide +kernel
theorem dX9_strokes_20 : decode cX9_strokes 20 = .ok (.invokevirtual 196, 3) := by decide +kernel
theorem dX9_strokes_23 : decode cX9_strokes 23 = .ok (.ireturn, 1) := by decide +kernel
theorem dX9_actLength_0 : decode cX9_actLength 0 = .ok (.iload_n 0, 1) := by decide +kernel
theorem dX9_actLength_1 : decode cX9_actLength 1 = .ok (.tableswitch 71 103 115 #[69, 71, 71, 71, 69, 71, 71, 67, 71, 69, 71, 67, 67], 67) := by decide +kernel
theorem dX9_actLength_68 : decode cX9_actLength 68 = .ok (.iconst 2, 1) := by decide +kernel
theorem dX9_actLength_69 : decode cX9_actLength 69 = .ok (.ireturn, 1) := by decide +kernel
theorem dX9_actLength_70 : decode cX9_actLength 70 = .ok (.iconst 3, 1) := by decide +kernel
theorem dX9_actLength_71 : decode cX9_actLength 71 = .ok (.ireturn, 1) := by decide +kernel
theorem dX9_actLength_72 : decode cX9_actLength 72 = .ok (.iconst 0, 1) := by decide +kernel
theorem dX9_actLength_73 : decode cX9_actLength 73 = .ok (.ireturn, 1) := by decide +kernel
theorem dX9_weekFault_0 : decode cX9_weekFault 0 = .ok (.iconst 0, 1) := by decide +kernel
theorem dX9_weekFault_1 : decode cX9_weekFault 1 = .ok (.istore_n 1, 1) := by decide +kernel
theorem dX9_weekFault_2 : decode cX9_weekFault 2 = .ok (.iconst 0, 1) := by decide +kernel
theorem dX9_weekFault_3 : decode cX9_weekFault 3 = .ok (.istore_n 2, 1) := by decide +kernel
theorem dX9_weekFault_4 : decode cX9_weekFault 4 = .ok (.iload_n 2, 1) := by decide +kernel
theorem dX9_weekFault_5 : decode cX9_weekFault 5 = .ok (.bipush 80, 2) := by decide +kernel
theorem dX9_weekFault_7 : decode cX9_weekFault 7 = .ok (.if_icmp .ge 129, 3) := by decide +kernel
theorem dX9_weekFault_10 : decode cX9_weekFault 10 = .ok (.iload_n 1, 1) := by decide +kernel
theorem dX9_weekFault_11 : decode cX9_weekFault 11 = .ok (.aload_n 0, 1) := by decide +kernel
theorem dX9_weekFault_12 : decode cX9_weekFault 12 = .ok (.getfield 10, 3) := by decide +kernel
theorem dX9_weekFault_15 : decode cX9_weekFault 15 = .ok (.getfield 107, 3) := by decide +kernel
theorem dX9_weekFault_18 : decode cX9_weekFault 18 = .ok (.if_icmp .ge 118, 3) := by decide +kernel
theorem dX9_weekFault_21 : decode cX9_weekFault 21 = .ok (.iload_n 1, 1) := by decide +kernel
theorem dX9_weekFault_22 : decode cX9_weekFault 22 = .ok (.bipush 60, 2) := by decide +kernel
theorem dX9_weekFault_24 : decode cX9_weekFault 24 = .ok (.if_icmp .ge 18, 3) := by decide +kernel
theorem dX9_weekFault_27 : decode cX9_weekFault 27 = .ok (.aload_n 0, 1) := by decide +kernel
theorem dX9_weekFault_28 : decode cX9_weekFault 28 = .ok (.getfield 10, 3) := by decide +kernel
theorem dX9_weekFault_31 : decode cX9_weekFault 31 = .ok (.getfield 218, 3) := by decide +kernel
theorem dX9_weekFault_34 : decode cX9_weekFault 34 = .ok (.iload_n 1, 1) := by decide +kernel
theorem dX9_weekFault_35 : decode cX9_weekFault 35 = .ok (.iaload, 1) := by decide +kernel
theorem dX9_weekFault_36 : decode cX9_weekFault 36 = .ok (.invokestatic 221, 3) := by decide +kernel
theorem dX9_weekFault_39 : decode cX9_weekFault 39 = .ok (.goto 4, 3) := by decide +kernel
theorem dX9_weekFault_42 : decode cX9_weekFault 42 = .ok (.iconst 0, 1) := by decide +kernel
theorem dX9_weekFault_43 : decode cX9_weekFault 43 = .ok (.istore_n 3, 1) := by decide +kernel
theorem dX9_weekFault_44 : decode cX9_weekFault 44 = .ok (.iload_n 3, 1) := by decide +kernel
theorem dX9_weekFault_45 : decode cX9_weekFault 45 = .ok (.ifCond .ne 5, 3) := by decide +kernel
theorem dX9_weekFault_48 : decode cX9_weekFault 48 = .ok (.iload_n 1, 1) := by decide +kernel
theorem dX9_weekFault_49 : decode cX9_weekFault 49 = .ok (.ireturn, 1) := by decide +kernel
theorem dX9_weekFault_50 : decode cX9_weekFault 50 = .ok (.iconst 1, 1) := by decide +kernel
theorem dX9_weekFault_51 : decode cX9_weekFault 51 = .ok (.istore 4, 2) := by decide +kernel
theorem dX9_weekFault_53 : decode cX9_weekFault 53 = .ok (.iload 4, 2) := by decide +kernel
theorem dX9_weekFault_55 : decode cX9_weekFault 55 = .ok (.iload_n 3, 1) := by decide +kernel
theorem dX9_weekFault_56 : decode cX9_weekFault 56 = .ok (.if_icmp .ge 70, 3) := by decide +kernel
theorem dX9_weekFault_59 : decode cX9_weekFault 59 = .ok (.iload_n 1, 1) := by decide +kernel
theorem dX9_weekFault_60 : decode cX9_weekFault 60 = .ok (.iload 4, 2) := by decide +kernel
theorem dX9_weekFault_62 : decode cX9_weekFault 62 = .ok (.iadd, 1) := by decide +kernel
theorem dX9_weekFault_63 : decode cX9_weekFault 63 = .ok (.bipush 60, 2) := by decide +kernel
theorem dX9_weekFault_65 : decode cX9_weekFault 65 = .ok (.if_icmp .ge 17, 3) := by decide +kernel
theorem dX9_weekFault_68 : decode cX9_weekFault 68 = .ok (.aload_n 0, 1) := by decide +kernel
theorem dX9_weekFault_69 : decode cX9_weekFault 69 = .ok (.getfield 10, 3) := by decide +kernel
theorem dX9_weekFault_72 : decode cX9_weekFault 72 = .ok (.iload_n 1, 1) := by decide +kernel
theorem dX9_weekFault_73 : decode cX9_weekFault 73 = .ok (.iload 4, 2) := by decide +kernel
theorem dX9_weekFault_75 : decode cX9_weekFault 75 = .ok (.iadd, 1) := by decide +kernel
theorem dX9_weekFault_76 : decode cX9_weekFault 76 = .ok (.invokevirtual 119, 3) := by decide +kernel
theorem dX9_weekFault_79 : decode cX9_weekFault 79 = .ok (.goto 4, 3) := by decide +kernel
theorem dX9_weekFault_82 : decode cX9_weekFault 82 = .ok (.iconst (-1), 1) := by decide +kernel
theorem dX9_weekFault_83 : decode cX9_weekFault 83 = .ok (.istore 5, 2) := by decide +kernel
theorem dX9_weekFault_85 : decode cX9_weekFault 85 = .ok (.iload 5, 2) := by decide +kernel
theorem dX9_weekFault_87 : decode cX9_weekFault 87 = .ok (.ifCond .lt 28, 3) := by decide +kernel
theorem dX9_weekFault_90 : decode cX9_weekFault 90 = .ok (.iload 5, 2) := by decide +kernel
theorem dX9_weekFault_92 : decode cX9_weekFault 92 = .ok (.ifCond .ne 28, 3) := by decide +kernel
theorem dX9_weekFault_95 : decode cX9_weekFault 95 = .ok (.iload 4, 2) := by decide +kernel
theorem dX9_weekFault_97 : decode cX9_weekFault 97 = .ok (.iconst 2, 1) := by decide +kernel
theorem dX9_weekFault_98 : decode cX9_weekFault 98 = .ok (.if_icmp .ne 22, 3) := by decide +kernel
theorem dX9_weekFault_101 : decode cX9_weekFault 101 = .ok (.aload_n 0, 1) := by decide +kernel
theorem dX9_weekFault_102 : decode cX9_weekFault 102 = .ok (.getfield 10, 3) := by decide +kernel
theorem dX9_weekFault_105 : decode cX9_weekFault 105 = .ok (.getfield 218, 3) := by decide +kernel
theorem dX9_weekFault_108 : decode cX9_weekFault 108 = .ok (.iload_n 1, 1) := by decide +kernel
theorem dX9_weekFault_109 : decode cX9_weekFault 109 = .ok (.iaload, 1) := by decide +kernel
theorem dX9_weekFault_110 : decode cX9_weekFault 110 = .ok (.bipush 112, 2) := by decide +kernel
theorem dX9_weekFault_112 : decode cX9_weekFault 112 = .ok (.if_icmp .ne 8, 3) := by decide +kernel
theorem dX9_weekFault_115 : decode cX9_weekFault 115 = .ok (.iload_n 1, 1) := by decide +kernel
theorem dX9_weekFault_116 : decode cX9_weekFault 116 = .ok (.iload 4, 2) := by decide +kernel
theorem dX9_weekFault_118 : decode cX9_weekFault 118 = .ok (.iadd, 1) := by decide +kernel
theorem dX9_weekFault_119 : decode cX9_weekFault 119 = .ok (.ireturn, 1) := by decide +kernel
theorem dX9_weekFault_120 : decode cX9_weekFault 120 = .ok (.iinc 4 1, 3) := by decide +kernel
theorem dX9_weekFault_123 : decode cX9_weekFault 123 = .ok (.goto (-70), 3) := by decide +kernel
theorem dX9_weekFault_126 : decode cX9_weekFault 126 = .ok (.iload_n 1, 1) := by decide +kernel
theorem dX9_weekFault_127 : decode cX9_weekFault 127 = .ok (.iload_n 3, 1) := by decide +kernel
theorem dX9_weekFault_128 : decode cX9_weekFault 128 = .ok (.iadd, 1) := by decide +kernel
theorem dX9_weekFault_129 : decode cX9_weekFault 129 = .ok (.istore_n 1, 1) := by decide +kernel
theorem dX9_weekFault_130 : decode cX9_weekFault 130 = .ok (.iinc 2 1, 3) := by decide +kernel
theorem dX9_weekFault_133 : decode cX9_weekFault 133 = .ok (.goto (-129), 3) := by decide +kernel
theorem dX9_weekFault_136 : decode cX9_weekFault 136 = .ok (.iconst (-1), 1) := by decide +kernel
theorem dX9_weekFault_137 : decode cX9_weekFault 137 = .ok (.ireturn, 1) := by decide +kernel
theorem dX9_doAct_0 : decode cX9_doAct 0 = .ok (.aload_n 0, 1) := by decide +kernel
theorem dX9_doAct_1 : decode cX9_doAct 1 = .ok (.getfield 10, 3) := by decide +kernel
theorem dX9_doAct_4 : decode cX9_doAct 4 = .ok (.iload_n 1, 1) := by decide +kernel
theorem dX9_doAct_5 : decode cX9_doAct 5 = .ok (.iconst 1, 1) := by decide +kernel
theorem dX9_doAct_6 : decode cX9_doAct 6 = .ok (.iadd, 1) := by decide +kernel
theorem dX9_doAct_7 : decode cX9_doAct 7 = .ok (.invokevirtual 119, 3) := by decide +kernel
theorem dX9_doAct_10 : decode cX9_doAct 10 = .ok (.istore_n 2, 1) := by decide +kernel
theorem dX9_doAct_11 : decode cX9_doAct 11 = .ok (.aload_n 0, 1) := by decide +kernel
theorem dX9_doAct_12 : decode cX9_doAct 12 = .ok (.getfield 10, 3) := by decide +kernel
theorem dX9_doAct_15 : decode cX9_doAct 15 = .ok (.iload_n 1, 1) := by decide +kernel
theorem dX9_doAct_16 : decode cX9_doAct 16 = .ok (.iconst 2, 1) := by decide +kernel
theorem dX9_doAct_17 : decode cX9_doAct 17 = .ok (.iadd, 1) := by decide +kernel
theorem dX9_doAct_18 : decode cX9_doAct 18 = .ok (.invokevirtual 119, 3) := by decide +kernel
theorem dX9_doAct_21 : decode cX9_doAct 21 = .ok (.istore_n 3, 1) := by decide +kernel
theorem dX9_doAct_22 : decode cX9_doAct 22 = .ok (.aload_n 0, 1) := by decide +kernel
theorem dX9_doAct_23 : decode cX9_doAct 23 = .ok (.getfield 10, 3) := by decide +kernel
theorem dX9_doAct_26 : decode cX9_doAct 26 = .ok (.getfield 218, 3) := by decide +kernel
theorem dX9_doAct_29 : decode cX9_doAct 29 = .ok (.iload_n 1, 1) := by decide +kernel
theorem dX9_doAct_30 : decode cX9_doAct 30 = .ok (.iaload, 1) := by decide +kernel
theorem dX9_doAct_31 : decode cX9_doAct 31 = .ok (.tableswitch 155 103 115 #[133, 155, 155, 155, 155, 155, 155, 65, 155, 115, 155, 98, 81], 65) := by decide +kernel
theorem dX9_doAct_96 : decode cX9_doAct 96 = .ok (.aload_n 0, 1) := by decide +kernel
theorem dX9_doAct_97 : decode cX9_doAct 97 = .ok (.aload_n 0, 1) := by decide +kernel
theorem dX9_doAct_98 : decode cX9_doAct 98 = .ok (.getfield 26, 3) := by decide +kernel
theorem dX9_doAct_101 : decode cX9_doAct 101 = .ok (.aload_n 0, 1) := by decide +kernel
theorem dX9_doAct_102 : decode cX9_doAct 102 = .ok (.getfield 100, 3) := by decide +kernel
theorem dX9_doAct_105 : decode cX9_doAct 105 = .ok (.iload_n 2, 1) := by decide +kernel
theorem dX9_doAct_106 : decode cX9_doAct 106 = .ok (.invokevirtual 182, 3) := by decide +kernel
theorem dX9_doAct_109 : decode cX9_doAct 109 = .ok (.pop, 1) := by decide +kernel
theorem dX9_doAct_110 : decode cX9_doAct 110 = .ok (.iconst 1, 1) := by decide +kernel
theorem dX9_doAct_111 : decode cX9_doAct 111 = .ok (.ireturn, 1) := by decide +kernel
theorem dX9_doAct_112 : decode cX9_doAct 112 = .ok (.aload_n 0, 1) := by decide +kernel
theorem dX9_doAct_113 : decode cX9_doAct 113 = .ok (.getfield 26, 3) := by decide +kernel
theorem dX9_doAct_116 : decode cX9_doAct 116 = .ok (.iload_n 2, 1) := by decide +kernel
theorem dX9_doAct_117 : decode cX9_doAct 117 = .ok (.invokevirtual 193, 3) := by decide +kernel
theorem dX9_doAct_120 : decode cX9_doAct 120 = .ok (.ifCond .lt 7, 3) := by decide +kernel
theorem dX9_doAct_123 : decode cX9_doAct 123 = .ok (.iconst 1, 1) := by decide +kernel
theorem dX9_doAct_124 : decode cX9_doAct 124 = .ok (.goto 4, 3) := by decide +kernel
theorem dX9_doAct_127 : decode cX9_doAct 127 = .ok (.iconst 0, 1) := by decide +kernel
theorem dX9_doAct_128 : decode cX9_doAct 128 = .ok (.ireturn, 1) := by decide +kernel
theorem dX9_doAct_129 : decode cX9_doAct 129 = .ok (.aload_n 0, 1) := by decide +kernel
theorem dX9_doAct_130 : decode cX9_doAct 130 = .ok (.getfield 26, 3) := by decide +kernel
theorem dX9_doAct_133 : decode cX9_doAct 133 = .ok (.iload_n 2, 1) := by decide +kernel
theorem dX9_doAct_134 : decode cX9_doAct 134 = .ok (.invokevirtual 199, 3) := by decide +kernel
theorem dX9_doAct_137 : decode cX9_doAct 137 = .ok (.ifCond .lt 7, 3) := by decide +kernel
theorem dX9_doAct_140 : decode cX9_doAct 140 = .ok (.iconst 1, 1) := by decide +kernel
theorem dX9_doAct_141 : decode cX9_doAct 141 = .ok (.goto 4, 3) := by decide +kernel
theorem dX9_doAct_144 : decode cX9_doAct 144 = .ok (.iconst 0, 1) := by decide +kernel
theorem dX9_doAct_145 : decode cX9_doAct 145 = .ok (.ireturn, 1) := by decide +kernel
theorem dX9_doAct_146 : decode cX9_doAct 146 = .ok (.aload_n 0, 1) := by decide +kernel
theorem dX9_doAct_147 : decode cX9_doAct 147 = .ok (.getfield 26, 3) := by decide +kernel
theorem dX9_doAct_150 : decode cX9_doAct 150 = .ok (.iload_n 2, 1) := by decide +kernel
theorem dX9_doAct_151 : decode cX9_doAct 151 = .ok (.iload_n 3, 1) := by decide +kernel
theorem dX9_doAct_152 : decode cX9_doAct 152 = .ok (.invokevirtual 202, 3) := by decide +kernel
theorem dX9_doAct_155 : decode cX9_doAct 155 = .ok (.ifCond .lt 7, 3) := by decide +kernel
theorem dX9_doAct_158 : decode cX9_doAct 158 = .ok (.iconst 1, 1) := by decide +kernel
theorem dX9_doAct_159 : decode cX9_doAct 159 = .ok (.goto 4, 3) := by decide +kernel
theorem dX9_doAct_162 : decode cX9_doAct 162 = .ok (.iconst 0, 1) := by decide +kernel
theorem dX9_doAct_163 : decode cX9_doAct 163 = .ok (.ireturn, 1) := by decide +kernel
theorem dX9_doAct_164 : decode cX9_doAct 164 = .ok (.aload_n 0, 1) := by decide +kernel
theorem dX9_doAct_165 : decode cX9_doAct 165 = .ok (.getfield 26, 3) := by decide +kernel
theorem dX9_doAct_168 : decode cX9_doAct 168 = .ok (.bipush 10, 2) := by decide +kernel
theorem dX9_doAct_170 : decode cX9_doAct 170 = .ok (.iload_n 2, 1) := by decide +kernel
theorem dX9_doAct_171 : decode cX9_doAct 171 = .ok (.imul, 1) := by decide +kernel
theorem dX9_doAct_172 : decode cX9_doAct 172 = .ok (.iload_n 3, 1) := by decide +kernel
theorem dX9_doAct_173 : decode cX9_doAct 173 = .ok (.iadd, 1) := by decide +kernel
theorem dX9_doAct_174 : decode cX9_doAct 174 = .ok (.invokevirtual 206, 3) := by decide +kernel
theorem dX9_doAct_177 : decode cX9_doAct 177 = .ok (.ifCond .lt 7, 3) := by decide +kernel
theorem dX9_doAct_180 : decode cX9_doAct 180 = .ok (.iconst 1, 1) := by decide +kernel
theorem dX9_doAct_181 : decode cX9_doAct 181 = .ok (.goto 4, 3) := by decide +kernel
theorem dX9_doAct_184 : decode cX9_doAct 184 = .ok (.iconst 0, 1) := by decide +kernel
theorem dX9_doAct_185 : decode cX9_doAct 185 = .ok (.ireturn, 1) := by decide +kernel
theorem dX9_doAct_186 : decode cX9_doAct 186 = .ok (.aload_n 0, 1) := by decide +kernel
theorem dX9_doAct_187 : decode cX9_doAct 187 = .ok (.getfield 26, 3) := by decide +kernel
theorem dX9_doAct_190 : decode cX9_doAct 190 = .ok (.bipush 10, 2) := by decide +kernel
theorem dX9_doAct_192 : decode cX9_doAct 192 = .ok (.iload_n 2, 1) := by decide +kernel
theorem dX9_doAct_193 : decode cX9_doAct 193 = .ok (.imul, 1) := by decide +kernel
theorem dX9_doAct_194 : decode cX9_doAct 194 = .ok (.iload_n 3, 1) := by decide +kernel
theorem dX9_doAct_195 : decode cX9_doAct 195 = .ok (.iadd, 1) := by decide +kernel
theorem dX9_doAct_196 : decode cX9_doAct 196 = .ok (.invokevirtual 209, 3) := by decide +kernel
theorem dX9_doAct_199 : decode cX9_doAct 199 = .ok (.ifCond .lt 7, 3) := by decide +kernel
theorem dX9_doAct_202 : decode cX9_doAct 202 = .ok (.iconst 1, 1) := by decide +kernel
theorem dX9_doAct_203 : decode cX9_doAct 203 = .ok (.goto 4, 3) := by decide +kernel
theorem dX9_doAct_206 : decode cX9_doAct 206 = .ok (.iconst 0, 1) := by decide +kernel
theorem dX9_doAct_207 : decode cX9_doAct 207 = .ok (.ireturn, 1) := by decide +kernel
theorem dX9_week_0 : decode cX9_week 0 = .ok (.aload_n 0, 1) := by decide +kernel
theorem dX9_week_1 : decode cX9_week 1 = .ok (.invokevirtual 212, 3) := by decide +kernel
theorem dX9_week_4 : decode cX9_week 4 = .ok (.istore_n 1, 1) := by decide +kernel
theorem dX9_week_5 : decode cX9_week 5 = .ok (.iload_n 1, 1) := by decide +kernel
theorem dX9_week_6 : decode cX9_week 6 = .ok (.ifCond .lt 15, 3) := by decide +kernel
theorem dX9_week_9 : decode cX9_week 9 = .ok (.aload_n 0, 1) := by decide +kernel
theorem dX9_week_10 : decode cX9_week 10 = .ok (.getfield 10, 3) := by decide +kernel
theorem dX9_week_13 : decode cX9_week 13 = .ok (.iconst 0, 1) := by decide +kernel
theorem dX9_week_14 : decode cX9_week 14 = .ok (.putfield 107, 3) := by decide +kernel
theorem dX9_week_17 : decode cX9_week 17 = .ok (.iconst (-1), 1) := by decide +kernel
theorem dX9_week_18 : decode cX9_week 18 = .ok (.iload_n 1, 1) := by decide +kernel
theorem dX9_week_19 : decode cX9_week 19 = .ok (.isub, 1) := by decide +kernel
theorem dX9_week_20 : decode cX9_week 20 = .ok (.ireturn, 1) := by decide +kernel
theorem dX9_week_21 : decode cX9_week 21 = .ok (.aload_n 0, 1) := by decide +kernel
theorem dX9_week_22 : decode cX9_week 22 = .ok (.getfield 30, 3) := by decide +kernel
theorem dX9_week_25 : decode cX9_week 25 = .ok (.aload_n 0, 1) := by decide +kernel
theorem dX9_week_26 : decode cX9_week 26 = .ok (.getfield 26, 3) := by decide +kernel
theorem dX9_week_29 : decode cX9_week 29 = .ok (.invokevirtual 190, 3) := by decide +kernel
theorem dX9_week_32 : decode cX9_week 32 = .ok (.iconst 0, 1) := by decide +kernel
theorem dX9_week_33 : decode cX9_week 33 = .ok (.istore_n 2, 1) := by decide +kernel
theorem dX9_week_34 : decode cX9_week 34 = .ok (.iconst 0, 1) := by decide +kernel
theorem dX9_week_35 : decode cX9_week 35 = .ok (.istore_n 3, 1) := by decide +kernel
theorem dX9_week_36 : decode cX9_week 36 = .ok (.iconst 0, 1) := by decide +kernel
theorem dX9_week_37 : decode cX9_week 37 = .ok (.istore 4, 2) := by decide +kernel
theorem dX9_week_39 : decode cX9_week 39 = .ok (.iconst 0, 1) := by decide +kernel
theorem dX9_week_40 : decode cX9_week 40 = .ok (.istore 5, 2) := by decide +kernel
theorem dX9_week_42 : decode cX9_week 42 = .ok (.iload 5, 2) := by decide +kernel
theorem dX9_week_44 : decode cX9_week 44 = .ok (.bipush 60, 2) := by decide +kernel
theorem dX9_week_46 : decode cX9_week 46 = .ok (.if_icmp .ge 68, 3) := by decide +kernel
theorem dX9_week_49 : decode cX9_week 49 = .ok (.iload_n 3, 1) := by decide +kernel
theorem dX9_week_50 : decode cX9_week 50 = .ok (.aload_n 0, 1) := by decide +kernel
theorem dX9_week_51 : decode cX9_week 51 = .ok (.getfield 10, 3) := by decide +kernel
theorem dX9_week_54 : decode cX9_week 54 = .ok (.getfield 107, 3) := by decide +kernel
theorem dX9_week_57 : decode cX9_week 57 = .ok (.if_icmp .ge 57, 3) := by decide +kernel
theorem dX9_week_60 : decode cX9_week 60 = .ok (.iload 4, 2) := by decide +kernel
theorem dX9_week_62 : decode cX9_week 62 = .ok (.ifCond .ne 52, 3) := by decide +kernel
theorem dX9_week_65 : decode cX9_week 65 = .ok (.aload_n 0, 1) := by decide +kernel
theorem dX9_week_66 : decode cX9_week 66 = .ok (.iload_n 3, 1) := by decide +kernel
theorem dX9_week_67 : decode cX9_week 67 = .ok (.invokevirtual 215, 3) := by decide +kernel
theorem dX9_week_70 : decode cX9_week 70 = .ok (.ifCond .ne 7, 3) := by decide +kernel
theorem dX9_week_73 : decode cX9_week 73 = .ok (.iconst 1, 1) := by decide +kernel
theorem dX9_week_74 : decode cX9_week 74 = .ok (.goto 4, 3) := by decide +kernel
theorem dX9_week_77 : decode cX9_week 77 = .ok (.iconst 0, 1) := by decide +kernel
theorem dX9_week_78 : decode cX9_week 78 = .ok (.istore 4, 2) := by decide +kernel
theorem dX9_week_80 : decode cX9_week 80 = .ok (.iload_n 2, 1) := by decide +kernel
theorem dX9_week_81 : decode cX9_week 81 = .ok (.iload 4, 2) := by decide +kernel
theorem dX9_week_83 : decode cX9_week 83 = .ok (.ifCond .eq 7, 3) := by decide +kernel
theorem dX9_week_86 : decode cX9_week 86 = .ok (.iconst 0, 1) := by decide +kernel
theorem dX9_week_87 : decode cX9_week 87 = .ok (.goto 4, 3) := by decide +kernel
theorem dX9_week_90 : decode cX9_week 90 = .ok (.iconst 1, 1) := by decide +kernel
theorem dX9_week_91 : decode cX9_week 91 = .ok (.iadd, 1) := by decide +kernel
theorem dX9_week_92 : decode cX9_week 92 = .ok (.istore_n 2, 1) := by decide +kernel
theorem dX9_week_93 : decode cX9_week 93 = .ok (.iload_n 3, 1) := by decide +kernel
theorem dX9_week_94 : decode cX9_week 94 = .ok (.aload_n 0, 1) := by decide +kernel
theorem dX9_week_95 : decode cX9_week 95 = .ok (.getfield 10, 3) := by decide +kernel
theorem dX9_week_98 : decode cX9_week 98 = .ok (.getfield 218, 3) := by decide +kernel
theorem dX9_week_101 : decode cX9_week 101 = .ok (.iload_n 3, 1) := by decide +kernel
theorem dX9_week_102 : decode cX9_week 102 = .ok (.iaload, 1) := by decide +kernel
theorem dX9_week_103 : decode cX9_week 103 = .ok (.invokestatic 221, 3) := by decide +kernel
theorem dX9_week_106 : decode cX9_week 106 = .ok (.iadd, 1) := by decide +kernel
theorem dX9_week_107 : decode cX9_week 107 = .ok (.istore_n 3, 1) := by decide +kernel
theorem dX9_week_108 : decode cX9_week 108 = .ok (.iinc 5 1, 3) := by decide +kernel
theorem dX9_week_111 : decode cX9_week 111 = .ok (.goto (-69), 3) := by decide +kernel
theorem dX9_week_114 : decode cX9_week 114 = .ok (.aload_n 0, 1) := by decide +kernel
theorem dX9_week_115 : decode cX9_week 115 = .ok (.getfield 10, 3) := by decide +kernel
theorem dX9_week_118 : decode cX9_week 118 = .ok (.iconst 0, 1) := by decide +kernel
theorem dX9_week_119 : decode cX9_week 119 = .ok (.putfield 107, 3) := by decide +kernel
theorem dX9_week_122 : decode cX9_week 122 = .ok (.iload_n 2, 1) := by decide +kernel
theorem dX9_week_123 : decode cX9_week 123 = .ok (.ifCond .le 14, 3) := by decide +kernel
theorem dX9_week_126 : decode cX9_week 126 = .ok (.aload_n 0, 1) := by decide +kernel
theorem dX9_week_127 : decode cX9_week 127 = .ok (.getfield 42, 3) := by decide +kernel
theorem dX9_week_130 : decode cX9_week 130 = .ok (.aload_n 0, 1) := by decide +kernel
theorem dX9_week_131 : decode cX9_week 131 = .ok (.getfield 30, 3) := by decide +kernel
theorem dX9_week_134 : decode cX9_week 134 = .ok (.invokevirtual 178, 3) := by decide +kernel
theorem dX9_week_137 : decode cX9_week 137 = .ok (.aload_n 0, 1) := by decide +kernel
theorem dX9_week_138 : decode cX9_week 138 = .ok (.getfield 19, 3) := by decide +kernel
theorem dX9_week_141 : decode cX9_week 141 = .ok (.iload 4, 2) := by decide +kernel
theorem dX9_week_143 : decode cX9_week 143 = .ok (.ifCond .eq 7, 3) := by decide +kernel
theorem dX9_week_146 : decode cX9_week 146 = .ok (.lconst 1, 1) := by decide +kernel
theorem dX9_week_147 : decode cX9_week 147 = .ok (.goto 4, 3) := by decide +kernel
theorem dX9_week_150 : decode cX9_week 150 = .ok (.lconst 0, 1) := by decide +kernel
theorem dX9_week_151 : decode cX9_week 151 = .ok (.aload_n 0, 1) := by decide +kernel
theorem dX9_week_152 : decode cX9_week 152 = .ok (.getfield 26, 3) := by decide +kernel
theorem dX9_week_155 : decode cX9_week 155 = .ok (.getfield 224, 3) := by decide +kernel
theorem dX9_week_158 : decode cX9_week 158 = .ok (.i2l, 1) := by decide +kernel
theorem dX9_week_159 : decode cX9_week 159 = .ok (.invokevirtual 227, 3) := by decide +kernel
theorem dX9_week_162 : decode cX9_week 162 = .ok (.iload_n 2, 1) := by decide +kernel
theorem dX9_week_163 : decode cX9_week 163 = .ok (.ireturn, 1) := by decide +kernel
theorem dX9_undo_0 : decode cX9_undo 0 = .ok (.aload_n 0, 1) := by decide +kernel
theorem dX9_undo_1 : decode cX9_undo 1 = .ok (.getfield 42, 3) := by decide +kernel
theorem dX9_undo_4 : decode cX9_undo 4 = .ok (.aload_n 0, 1) := by decide +kernel
theorem dX9_undo_5 : decode cX9_undo 5 = .ok (.getfield 26, 3) := by decide +kernel
theorem dX9_undo_8 : decode cX9_undo 8 = .ok (.invokevirtual 231, 3) := by decide +kernel
theorem dX9_undo_11 : decode cX9_undo 11 = .ok (.ifCond .ne 5, 3) := by decide +kernel
theorem dX9_undo_14 : decode cX9_undo 14 = .ok (.iconst (-1), 1) := by decide +kernel
theorem dX9_undo_15 : decode cX9_undo 15 = .ok (.ireturn, 1) := by decide +kernel
theorem dX9_undo_16 : decode cX9_undo 16 = .ok (.aload_n 0, 1) := by decide +kernel
theorem dX9_undo_17 : decode cX9_undo 17 = .ok (.getfield 42, 3) := by decide +kernel
theorem dX9_undo_20 : decode cX9_undo 20 = .ok (.getfield 127, 3) := by decide +kernel
theorem dX9_undo_23 : decode cX9_undo 23 = .ok (.ireturn, 1) := by decide +kernel
theorem dX9_race_0 : decode cX9_race 0 = .ok (.aload_n 0, 1) := by decide +kernel
theorem dX9_race_1 : decode cX9_race 1 = .ok (.getfield 64, 3) := by decide +kernel
theorem dX9_race_4 : decode cX9_race 4 = .ok (.aload_n 0, 1) := by decide +kernel
theorem dX9_race_5 : decode cX9_race 5 = .ok (.getfield 26, 3) := by decide +kernel
theorem dX9_race_8 : decode cX9_race 8 = .ok (.aload_n 0, 1) := by decide +kernel
theorem dX9_race_9 : decode cX9_race 9 = .ok (.getfield 100, 3) := by decide +kernel
theorem dX9_race_12 : decode cX9_race 12 = .ok (.invokevirtual 157, 3) := by decide +kernel
theorem dX9_race_15 : decode cX9_race 15 = .ok (.aload_n 0, 1) := by decide +kernel
theorem dX9_race_16 : decode cX9_race 16 = .ok (.getfield 19, 3) := by decide +kernel
theorem dX9_race_19 : decode cX9_race 19 = .ok (.iconst 0, 1) := by decide +kernel
theorem dX9_race_20 : decode cX9_race 20 = .ok (.putfield 235, 3) := by decide +kernel
theorem dX9_race_23 : decode cX9_race 23 = .ok (.iconst 0, 1) := by decide +kernel
theorem dX9_race_24 : decode cX9_race 24 = .ok (.istore_n 1, 1) := by decide +kernel
theorem dX9_race_25 : decode cX9_race 25 = .ok (.iload_n 1, 1) := by decide +kernel
theorem dX9_race_26 : decode cX9_race 26 = .ok (.aload_n 0, 1) := by decide +kernel
theorem dX9_race_27 : decode cX9_race 27 = .ok (.getfield 64, 3) := by decide +kernel
theorem dX9_race_30 : decode cX9_race 30 = .ok (.getfield 236, 3) := by decide +kernel
theorem dX9_race_33 : decode cX9_race 33 = .ok (.if_icmp .ge 60, 3) := by decide +kernel
theorem dX9_race_36 : decode cX9_race 36 = .ok (.aload_n 0, 1) := by decide +kernel
theorem dX9_race_37 : decode cX9_race 37 = .ok (.getfield 19, 3) := by decide +kernel
theorem dX9_race_40 : decode cX9_race 40 = .ok (.aload_n 0, 1) := by decide +kernel
theorem dX9_race_41 : decode cX9_race 41 = .ok (.getfield 64, 3) := by decide +kernel
theorem dX9_race_44 : decode cX9_race 44 = .ok (.getfield 239, 3) := by decide +kernel
theorem dX9_race_47 : decode cX9_race 47 = .ok (.iload_n 1, 1) := by decide +kernel
theorem dX9_race_48 : decode cX9_race 48 = .ok (.iaload, 1) := by decide +kernel
theorem dX9_race_49 : decode cX9_race 49 = .ok (.i2l, 1) := by decide +kernel
theorem dX9_race_50 : decode cX9_race 50 = .ok (.invokevirtual 242, 3) := by decide +kernel
theorem dX9_race_53 : decode cX9_race 53 = .ok (.aload_n 0, 1) := by decide +kernel
theorem dX9_race_54 : decode cX9_race 54 = .ok (.getfield 19, 3) := by decide +kernel
theorem dX9_race_57 : decode cX9_race 57 = .ok (.aload_n 0, 1) := by decide +kernel
theorem dX9_race_58 : decode cX9_race 58 = .ok (.getfield 64, 3) := by decide +kernel
theorem dX9_race_61 : decode cX9_race 61 = .ok (.getfield 244, 3) := by decide +kernel
theorem dX9_race_64 : decode cX9_race 64 = .ok (.iload_n 1, 1) := by decide +kernel
theorem dX9_race_65 : decode cX9_race 65 = .ok (.iaload, 1) := by decide +kernel
theorem dX9_race_66 : decode cX9_race 66 = .ok (.i2l, 1) := by decide +kernel
theorem dX9_race_67 : decode cX9_race 67 = .ok (.invokevirtual 242, 3) := by decide +kernel
theorem dX9_race_70 : decode cX9_race 70 = .ok (.aload_n 0, 1) := by decide +kernel
theorem dX9_race_71 : decode cX9_race 71 = .ok (.getfield 19, 3) := by decide +kernel
theorem dX9_race_74 : decode cX9_race 74 = .ok (.aload_n 0, 1) := by decide +kernel
theorem dX9_race_75 : decode cX9_race 75 = .ok (.getfield 64, 3) := by decide +kernel
theorem dX9_race_78 : decode cX9_race 78 = .ok (.getfield 247, 3) := by decide +kernel
theorem dX9_race_81 : decode cX9_race 81 = .ok (.iload_n 1, 1) := by decide +kernel
theorem dX9_race_82 : decode cX9_race 82 = .ok (.iaload, 1) := by decide +kernel
theorem dX9_race_83 : decode cX9_race 83 = .ok (.i2l, 1) := by decide +kernel
theorem dX9_race_84 : decode cX9_race 84 = .ok (.invokevirtual 242, 3) := by decide +kernel
theorem dX9_race_87 : decode cX9_race 87 = .ok (.iinc 1 1, 3) := by decide +kernel
theorem dX9_race_90 : decode cX9_race 90 = .ok (.goto (-65), 3) := by decide +kernel
theorem dX9_race_93 : decode cX9_race 93 = .ok (.aload_n 0, 1) := by decide +kernel
theorem dX9_race_94 : decode cX9_race 94 = .ok (.getfield 64, 3) := by decide +kernel
theorem dX9_race_97 : decode cX9_race 97 = .ok (.getfield 236, 3) := by decide +kernel
theorem dX9_race_100 : decode cX9_race 100 = .ok (.ireturn, 1) := by decide +kernel
theorem dX9_lies_0 : decode cX9_lies 0 = .ok (.aload_n 0, 1) := by decide +kernel
theorem dX9_lies_1 : decode cX9_lies 1 = .ok (.getfield 26, 3) := by decide +kernel
theorem dX9_lies_4 : decode cX9_lies 4 = .ok (.iload_n 1, 1) := by decide +kernel
theorem dX9_lies_5 : decode cX9_lies 5 = .ok (.invokevirtual 134, 3) := by decide +kernel
theorem dX9_lies_8 : decode cX9_lies 8 = .ok (.ifCond .eq 13, 3) := by decide +kernel
theorem dX9_lies_11 : decode cX9_lies 11 = .ok (.iload_n 2, 1) := by decide +kernel
theorem dX9_lies_12 : decode cX9_lies 12 = .ok (.ifCond .lt 9, 3) := by decide +kernel
theorem dX9_lies_15 : decode cX9_lies 15 = .ok (.iload_n 2, 1) := by decide +kernel
theorem dX9_lies_16 : decode cX9_lies 16 = .ok (.bipush 40, 2) := by decide +kernel
theorem dX9_lies_18 : decode cX9_lies 18 = .ok (.if_icmp .le 5, 3) := by decide +kernel
theorem dX9_lies_21 : decode cX9_lies 21 = .ok (.iconst (-1), 1) := by decide +kernel
theorem dX9_lies_22 : decode cX9_lies 22 = .ok (.ireturn, 1) := by decide +kernel
theorem dX9_lies_23 : decode cX9_lies 23 = .ok (.aload_n 0, 1) := by decide +kernel
theorem dX9_lies_24 : decode cX9_lies 24 = .ok (.getfield 64, 3) := by decide +kernel
theorem dX9_lies_27 : decode cX9_lies 27 = .ok (.aload_n 0, 1) := by decide +kernel
theorem dX9_lies_28 : decode cX9_lies 28 = .ok (.getfield 26, 3) := by decide +kernel
theorem dX9_lies_31 : decode cX9_lies 31 = .ok (.aload_n 0, 1) := by decide +kernel
theorem dX9_lies_32 : decode cX9_lies 32 = .ok (.getfield 100, 3) := by decide +kernel
theorem dX9_lies_35 : decode cX9_lies 35 = .ok (.invokevirtual 250, 3) := by decide +kernel
theorem dX9_lies_38 : decode cX9_lies 38 = .ok (.iconst 0, 1) := by decide +kernel
theorem dX9_lies_39 : decode cX9_lies 39 = .ok (.istore_n 3, 1) := by decide +kernel
theorem dX9_lies_40 : decode cX9_lies 40 = .ok (.iload_n 3, 1) := by decide +kernel
theorem dX9_lies_41 : decode cX9_lies 41 = .ok (.iload_n 2, 1) := by decide +kernel
theorem dX9_lies_42 : decode cX9_lies 42 = .ok (.if_icmp .ge 25, 3) := by decide +kernel
theorem dX9_lies_45 : decode cX9_lies 45 = .ok (.aload_n 0, 1) := by decide +kernel
theorem dX9_lies_46 : decode cX9_lies 46 = .ok (.getfield 64, 3) := by decide +kernel
theorem dX9_lies_49 : decode cX9_lies 49 = .ok (.aload_n 0, 1) := by decide +kernel
theorem dX9_lies_50 : decode cX9_lies 50 = .ok (.getfield 26, 3) := by decide +kernel
theorem dX9_lies_53 : decode cX9_lies 53 = .ok (.aload_n 0, 1) := by decide +kernel
theorem dX9_lies_54 : decode cX9_lies 54 = .ok (.getfield 100, 3) := by decide +kernel
theorem dX9_lies_57 : decode cX9_lies 57 = .ok (.iload_n 3, 1) := by decide +kernel
theorem dX9_lies_58 : decode cX9_lies 58 = .ok (.invokevirtual 253, 3) := by decide +kernel
theorem dX9_lies_61 : decode cX9_lies 61 = .ok (.iinc 3 1, 3) := by decide +kernel
theorem dX9_lies_64 : decode cX9_lies 64 = .ok (.goto (-24), 3) := by decide +kernel
theorem dX9_lies_67 : decode cX9_lies 67 = .ok (.aload_n 0, 1) := by decide +kernel
theorem dX9_lies_68 : decode cX9_lies 68 = .ok (.getfield 26, 3) := by decide +kernel
theorem dX9_lies_71 : decode cX9_lies 71 = .ok (.getfield 151, 3) := by decide +kernel
theorem dX9_lies_74 : decode cX9_lies 74 = .ok (.iload_n 1, 1) := by decide +kernel
theorem dX9_lies_75 : decode cX9_lies 75 = .ok (.iaload, 1) := by decide +kernel
theorem dX9_lies_76 : decode cX9_lies 76 = .ok (.istore_n 3, 1) := by decide +kernel
theorem dX9_lies_77 : decode cX9_lies 77 = .ok (.aload_n 0, 1) := by decide +kernel
theorem dX9_lies_78 : decode cX9_lies 78 = .ok (.getfield 19, 3) := by decide +kernel
theorem dX9_lies_81 : decode cX9_lies 81 = .ok (.aload_n 0, 1) := by decide +kernel
theorem dX9_lies_82 : decode cX9_lies 82 = .ok (.getfield 64, 3) := by decide +kernel
theorem dX9_lies_85 : decode cX9_lies 85 = .ok (.getfield 257, 3) := by decide +kernel
theorem dX9_lies_88 : decode cX9_lies 88 = .ok (.iload_n 3, 1) := by decide +kernel
theorem dX9_lies_89 : decode cX9_lies 89 = .ok (.baload, 1) := by decide +kernel
theorem dX9_lies_90 : decode cX9_lies 90 = .ok (.ifCond .eq 7, 3) := by decide +kernel
theorem dX9_lies_93 : decode cX9_lies 93 = .ok (.lconst 1, 1) := by decide +kernel
theorem dX9_lies_94 : decode cX9_lies 94 = .ok (.goto 4, 3) := by decide +kernel
theorem dX9_lies_97 : decode cX9_lies 97 = .ok (.lconst 0, 1) := by decide +kernel
theorem dX9_lies_98 : decode cX9_lies 98 = .ok (.invokevirtual 186, 3) := by decide +kernel
theorem dX9_lies_101 : decode cX9_lies 101 = .ok (.sipush 1000, 3) := by decide +kernel
theorem dX9_lies_104 : decode cX9_lies 104 = .ok (.aload_n 0, 1) := by decide +kernel
theorem dX9_lies_105 : decode cX9_lies 105 = .ok (.getfield 64, 3) := by decide +kernel
theorem dX9_lies_108 : decode cX9_lies 108 = .ok (.getfield 260, 3) := by decide +kernel
theorem dX9_lies_111 : decode cX9_lies 111 = .ok (.iload_n 3, 1) := by decide +kernel
theorem dX9_lies_112 : decode cX9_lies 112 = .ok (.iaload, 1) := by decide +kernel
theorem dX9_lies_113 : decode cX9_lies 113 = .ok (.iadd, 1) := by decide +kernel
theorem dX9_lies_114 : decode cX9_lies 114 = .ok (.ireturn, 1) := by decide +kernel
theorem dX9_over_0 : decode cX9_over 0 = .ok (.aload_n 0, 1) := by decide +kernel
theorem dX9_over_1 : decode cX9_over 1 = .ok (.getfield 64, 3) := by decide +kernel
theorem dX9_over_4 : decode cX9_over 4 = .ok (.aload_n 0, 1) := by decide +kernel
theorem dX9_over_5 : decode cX9_over 5 = .ok (.getfield 26, 3) := by decide +kernel
theorem dX9_over_8 : decode cX9_over 8 = .ok (.aload_n 0, 1) := by decide +kernel
theorem dX9_over_9 : decode cX9_over 9 = .ok (.getfield 100, 3) := by decide +kernel
theorem dX9_over_12 : decode cX9_over 12 = .ok (.invokevirtual 157, 3) := by decide +kernel
theorem dX9_over_15 : decode cX9_over 15 = .ok (.aload_n 0, 1) := by decide +kernel
theorem dX9_over_16 : decode cX9_over 16 = .ok (.getfield 19, 3) := by decide +kernel
theorem dX9_over_19 : decode cX9_over 19 = .ok (.aload_n 0, 1) := by decide +kernel
theorem dX9_over_20 : decode cX9_over 20 = .ok (.getfield 64, 3) := by decide +kernel
theorem dX9_over_23 : decode cX9_over 23 = .ok (.invokevirtual 263, 3) := by decide +kernel
theorem dX9_over_26 : decode cX9_over 26 = .ok (.i2l, 1) := by decide +kernel
theorem dX9_over_27 : decode cX9_over 27 = .ok (.aload_n 0, 1) := by decide +kernel
theorem dX9_over_28 : decode cX9_over 28 = .ok (.getfield 64, 3) := by decide +kernel
theorem dX9_over_31 : decode cX9_over 31 = .ok (.invokevirtual 266, 3) := by decide +kernel
theorem dX9_over_34 : decode cX9_over 34 = .ok (.i2l, 1) := by decide +kernel
theorem dX9_over_35 : decode cX9_over 35 = .ok (.invokevirtual 227, 3) := by decide +kernel
theorem dX9_over_38 : decode cX9_over 38 = .ok (.aload_n 0, 1) := by decide +kernel
theorem dX9_over_39 : decode cX9_over 39 = .ok (.getfield 64, 3) := by decide +kernel
theorem dX9_over_42 : decode cX9_over 42 = .ok (.aload_n 0, 1) := by decide +kernel
theorem dX9_over_43 : decode cX9_over 43 = .ok (.getfield 26, 3) := by decide +kernel
theorem dX9_over_46 : decode cX9_over 46 = .ok (.invokevirtual 269, 3) := by decide +kernel
theorem dX9_over_49 : decode cX9_over 49 = .ok (.ireturn, 1) := by decide +kernel
theorem dX9_closest_0 : decode cX9_closest 0 = .ok (.aload_n 0, 1) := by decide +kernel
theorem dX9_closest_1 : decode cX9_closest 1 = .ok (.getfield 26, 3) := by decide +kernel
theorem dX9_closest_4 : decode cX9_closest 4 = .ok (.iload_n 1, 1) := by decide +kernel
theorem dX9_closest_5 : decode cX9_closest 5 = .ok (.invokevirtual 134, 3) := by decide +kernel
theorem dX9_closest_8 : decode cX9_closest 8 = .ok (.ifCond .ne 5, 3) := by decide +kernel
theorem dX9_closest_11 : decode cX9_closest 11 = .ok (.iconst (-1), 1) := by decide +kernel
theorem dX9_closest_12 : decode cX9_closest 12 = .ok (.ireturn, 1) := by decide +kernel
theorem dX9_closest_13 : decode cX9_closest 13 = .ok (.aload_n 0, 1) := by decide +kernel
theorem dX9_closest_14 : decode cX9_closest 14 = .ok (.getfield 26, 3) := by decide +kernel
theorem dX9_closest_17 : decode cX9_closest 17 = .ok (.getfield 151, 3) := by decide +kernel
theorem dX9_closest_20 : decode cX9_closest 20 = .ok (.iload_n 1, 1) := by decide +kernel
theorem dX9_closest_21 : decode cX9_closest 21 = .ok (.iaload, 1) := by decide +kernel
theorem dX9_closest_22 : decode cX9_closest 22 = .ok (.istore_n 2, 1) := by decide +kernel
theorem dX9_closest_23 : decode cX9_closest 23 = .ok (.iconst (-1), 1) := by decide +kernel
theorem dX9_closest_24 : decode cX9_closest 24 = .ok (.istore_n 3, 1) := by decide +kernel
theorem dX9_closest_25 : decode cX9_closest 25 = .ok (.iconst 0, 1) := by decide +kernel
theorem dX9_closest_26 : decode cX9_closest 26 = .ok (.istore 4, 2) := by decide +kernel
theorem dX9_closest_28 : decode cX9_closest 28 = .ok (.iconst (-1), 1) := by decide +kernel
theorem dX9_closest_29 : decode cX9_closest 29 = .ok (.istore 5, 2) := by decide +kernel
theorem dX9_closest_31 : decode cX9_closest 31 = .ok (.aload_n 0, 1) := by decide +kernel
theorem dX9_closest_32 : decode cX9_closest 32 = .ok (.getfield 64, 3) := by decide +kernel
theorem dX9_closest_35 : decode cX9_closest 35 = .ok (.aload_n 0, 1) := by decide +kernel
theorem dX9_closest_36 : decode cX9_closest 36 = .ok (.getfield 26, 3) := by decide +kernel
theorem dX9_closest_39 : decode cX9_closest 39 = .ok (.aload_n 0, 1) := by decide +kernel
theorem dX9_closest_40 : decode cX9_closest 40 = .ok (.getfield 100, 3) := by decide +kernel
theorem dX9_closest_43 : decode cX9_closest 43 = .ok (.invokevirtual 250, 3) := by decide +kernel
theorem dX9_closest_46 : decode cX9_closest 46 = .ok (.iconst 0, 1) := by decide +kernel
theorem dX9_closest_47 : decode cX9_closest 47 = .ok (.istore 6, 2) := by decide +kernel
theorem dX9_closest_49 : decode cX9_closest 49 = .ok (.iload 6, 2) := by decide +kernel
theorem dX9_closest_51 : decode cX9_closest 51 = .ok (.aload_n 0, 1) := by decide +kernel
theorem dX9_closest_52 : decode cX9_closest 52 = .ok (.getfield 26, 3) := by decide +kernel
theorem dX9_closest_55 : decode cX9_closest 55 = .ok (.getfield 273, 3) := by decide +kernel
theorem dX9_closest_58 : decode cX9_closest 58 = .ok (.if_icmp .gt 128, 3) := by decide +kernel
theorem dX9_closest_61 : decode cX9_closest 61 = .ok (.aload_n 0, 1) := by decide +kernel
theorem dX9_closest_62 : decode cX9_closest 62 = .ok (.getfield 64, 3) := by decide +kernel
theorem dX9_closest_65 : decode cX9_closest 65 = .ok (.getfield 276, 3) := by decide +kernel
theorem dX9_closest_68 : decode cX9_closest 68 = .ok (.iconst 1, 1) := by decide +kernel
theorem dX9_closest_69 : decode cX9_closest 69 = .ok (.if_icmp .le 117, 3) := by decide +kernel
theorem dX9_closest_72 : decode cX9_closest 72 = .ok (.aload_n 0, 1) := by decide +kernel
theorem dX9_closest_73 : decode cX9_closest 73 = .ok (.getfield 64, 3) := by decide +kernel
theorem dX9_closest_76 : decode cX9_closest 76 = .ok (.getfield 257, 3) := by decide +kernel
theorem dX9_closest_79 : decode cX9_closest 79 = .ok (.iload_n 2, 1) := by decide +kernel
theorem dX9_closest_80 : decode cX9_closest 80 = .ok (.baload, 1) := by decide +kernel
theorem dX9_closest_81 : decode cX9_closest 81 = .ok (.ifCond .eq 105, 3) := by decide +kernel
theorem dX9_closest_84 : decode cX9_closest 84 = .ok (.aload_n 0, 1) := by decide +kernel
theorem dX9_closest_85 : decode cX9_closest 85 = .ok (.getfield 64, 3) := by decide +kernel
theorem dX9_closest_88 : decode cX9_closest 88 = .ok (.iload_n 2, 1) := by decide +kernel
theorem dX9_closest_89 : decode cX9_closest 89 = .ok (.invokevirtual 279, 3) := by decide +kernel
theorem dX9_closest_92 : decode cX9_closest 92 = .ok (.istore 7, 2) := by decide +kernel
theorem dX9_closest_94 : decode cX9_closest 94 = .ok (.iload 7, 2) := by decide +kernel
theorem dX9_closest_96 : decode cX9_closest 96 = .ok (.ifCond .lt 67, 3) := by decide +kernel
theorem dX9_closest_99 : decode cX9_closest 99 = .ok (.iload_n 3, 1) := by decide +kernel
theorem dX9_closest_100 : decode cX9_closest 100 = .ok (.ifCond .lt 27, 3) := by decide +kernel
theorem dX9_closest_103 : decode cX9_closest 103 = .ok (.aload_n 0, 1) := by decide +kernel
theorem dX9_closest_104 : decode cX9_closest 104 = .ok (.getfield 64, 3) := by decide +kernel
theorem dX9_closest_107 : decode cX9_closest 107 = .ok (.getfield 260, 3) := by decide +kernel
theorem dX9_closest_110 : decode cX9_closest 110 = .ok (.iload 7, 2) := by decide +kernel
theorem dX9_closest_112 : decode cX9_closest 112 = .ok (.iaload, 1) := by decide +kernel
theorem dX9_closest_113 : decode cX9_closest 113 = .ok (.aload_n 0, 1) := by decide +kernel
theorem dX9_closest_114 : decode cX9_closest 114 = .ok (.getfield 64, 3) := by decide +kernel
theorem dX9_closest_117 : decode cX9_closest 117 = .ok (.getfield 260, 3) := by decide +kernel
theorem dX9_closest_120 : decode cX9_closest 120 = .ok (.iload_n 2, 1) := by decide +kernel
theorem dX9_closest_121 : decode cX9_closest 121 = .ok (.iaload, 1) := by decide +kernel
theorem dX9_closest_122 : decode cX9_closest 122 = .ok (.isub, 1) := by decide +kernel
theorem dX9_closest_123 : decode cX9_closest 123 = .ok (.iload_n 3, 1) := by decide +kernel
theorem dX9_closest_124 : decode cX9_closest 124 = .ok (.if_icmp .ge 39, 3) := by decide +kernel
theorem dX9_closest_127 : decode cX9_closest 127 = .ok (.aload_n 0, 1) := by decide +kernel
theorem dX9_closest_128 : decode cX9_closest 128 = .ok (.getfield 64, 3) := by decide +kernel
theorem dX9_closest_131 : decode cX9_closest 131 = .ok (.getfield 260, 3) := by decide +kernel
theorem dX9_closest_134 : decode cX9_closest 134 = .ok (.iload 7, 2) := by decide +kernel
theorem dX9_closest_136 : decode cX9_closest 136 = .ok (.iaload, 1) := by decide +kernel
theorem dX9_closest_137 : decode cX9_closest 137 = .ok (.aload_n 0, 1) := by decide +kernel
theorem dX9_closest_138 : decode cX9_closest 138 = .ok (.getfield 64, 3) := by decide +kernel
theorem dX9_closest_141 : decode cX9_closest 141 = .ok (.getfield 260, 3) := by decide +kernel
theorem dX9_closest_144 : decode cX9_closest 144 = .ok (.iload_n 2, 1) := by decide +kernel
theorem dX9_closest_145 : decode cX9_closest 145 = .ok (.iaload, 1) := by decide +kernel
theorem dX9_closest_146 : decode cX9_closest 146 = .ok (.isub, 1) := by decide +kernel
theorem dX9_closest_147 : decode cX9_closest 147 = .ok (.istore_n 3, 1) := by decide +kernel
theorem dX9_closest_148 : decode cX9_closest 148 = .ok (.iload 6, 2) := by decide +kernel
theorem dX9_closest_150 : decode cX9_closest 150 = .ok (.istore 4, 2) := by decide +kernel
theorem dX9_closest_152 : decode cX9_closest 152 = .ok (.aload_n 0, 1) := by decide +kernel
theorem dX9_closest_153 : decode cX9_closest 153 = .ok (.getfield 26, 3) := by decide +kernel
theorem dX9_closest_156 : decode cX9_closest 156 = .ok (.iload 7, 2) := by decide +kernel
theorem dX9_closest_158 : decode cX9_closest 158 = .ok (.invokevirtual 154, 3) := by decide +kernel
theorem dX9_closest_161 : decode cX9_closest 161 = .ok (.istore 5, 2) := by decide +kernel
theorem dX9_closest_163 : decode cX9_closest 163 = .ok (.aload_n 0, 1) := by decide +kernel
theorem dX9_closest_164 : decode cX9_closest 164 = .ok (.getfield 64, 3) := by decide +kernel
theorem dX9_closest_167 : decode cX9_closest 167 = .ok (.aload_n 0, 1) := by decide +kernel
theorem dX9_closest_168 : decode cX9_closest 168 = .ok (.getfield 26, 3) := by decide +kernel
theorem dX9_closest_171 : decode cX9_closest 171 = .ok (.aload_n 0, 1) := by decide +kernel
theorem dX9_closest_172 : decode cX9_closest 172 = .ok (.getfield 100, 3) := by decide +kernel
theorem dX9_closest_175 : decode cX9_closest 175 = .ok (.iload 6, 2) := by decide +kernel
theorem dX9_closest_177 : decode cX9_closest 177 = .ok (.invokevirtual 253, 3) := by decide +kernel
theorem dX9_closest_180 : decode cX9_closest 180 = .ok (.iinc 6 1, 3) := by decide +kernel
theorem dX9_closest_183 : decode cX9_closest 183 = .ok (.goto (-134), 3) := by decide +kernel
theorem dX9_closest_186 : decode cX9_closest 186 = .ok (.iload_n 3, 1) := by decide +kernel
theorem dX9_closest_187 : decode cX9_closest 187 = .ok (.ifCond .ge 6, 3) := by decide +kernel
theorem dX9_closest_190 : decode cX9_closest 190 = .ok (.bipush (-2), 2) := by decide +kernel
theorem dX9_closest_192 : decode cX9_closest 192 = .ok (.ireturn, 1) := by decide +kernel
theorem dX9_closest_193 : decode cX9_closest 193 = .ok (.aload_n 0, 1) := by decide +kernel
theorem dX9_closest_194 : decode cX9_closest 194 = .ok (.getfield 19, 3) := by decide +kernel
theorem dX9_closest_197 : decode cX9_closest 197 = .ok (.iload 4, 2) := by decide +kernel
theorem dX9_closest_199 : decode cX9_closest 199 = .ok (.i2l, 1) := by decide +kernel
theorem dX9_closest_200 : decode cX9_closest 200 = .ok (.iload 5, 2) := by decide +kernel
theorem dX9_closest_202 : decode cX9_closest 202 = .ok (.i2l, 1) := by decide +kernel
theorem dX9_closest_203 : decode cX9_closest 203 = .ok (.invokevirtual 227, 3) := by decide +kernel
theorem dX9_closest_206 : decode cX9_closest 206 = .ok (.iload_n 3, 1) := by decide +kernel
theorem dX9_closest_207 : decode cX9_closest 207 = .ok (.ireturn, 1) := by decide +kernel
theorem dX9_later_0 : decode cX9_later 0 = .ok (.aload_n 0, 1) := by decide +kernel
theorem dX9_later_1 : decode cX9_later 1 = .ok (.getfield 26, 3) := by decide +kernel
theorem dX9_later_4 : decode cX9_later 4 = .ok (.iload_n 1, 1) := by decide +kernel
theorem dX9_later_5 : decode cX9_later 5 = .ok (.invokevirtual 134, 3) := by decide +kernel
theorem dX9_later_8 : decode cX9_later 8 = .ok (.ifCond .eq 13, 3) := by decide +kernel
theorem dX9_later_11 : decode cX9_later 11 = .ok (.iload_n 2, 1) := by decide +kernel
theorem dX9_later_12 : decode cX9_later 12 = .ok (.ifCond .lt 9, 3) := by decide +kernel
theorem dX9_later_15 : decode cX9_later 15 = .ok (.iload_n 2, 1) := by decide +kernel
theorem dX9_later_16 : decode cX9_later 16 = .ok (.bipush 60, 2) := by decide +kernel
theorem dX9_later_18 : decode cX9_later 18 = .ok (.if_icmp .le 5, 3) := by decide +kernel
theorem dX9_later_21 : decode cX9_later 21 = .ok (.iconst (-1), 1) := by decide +kernel
theorem dX9_later_22 : decode cX9_later 22 = .ok (.ireturn, 1) := by decide +kernel
theorem dX9_later_23 : decode cX9_later 23 = .ok (.aload_n 0, 1) := by decide +kernel
theorem dX9_later_24 : decode cX9_later 24 = .ok (.getfield 33, 3) := by decide +kernel
theorem dX9_later_27 : decode cX9_later 27 = .ok (.aload_n 0, 1) := by decide +kernel
theorem dX9_later_28 : decode cX9_later 28 = .ok (.getfield 26, 3) := by decide +kernel
theorem dX9_later_31 : decode cX9_later 31 = .ok (.invokevirtual 190, 3) := by decide +kernel
theorem dX9_later_34 : decode cX9_later 34 = .ok (.aload_n 0, 1) := by decide +kernel
theorem dX9_later_35 : decode cX9_later 35 = .ok (.aload_n 0, 1) := by decide +kernel
theorem dX9_later_36 : decode cX9_later 36 = .ok (.getfield 33, 3) := by decide +kernel
theorem dX9_later_39 : decode cX9_later 39 = .ok (.aload_n 0, 1) := by decide +kernel
theorem dX9_later_40 : decode cX9_later 40 = .ok (.getfield 100, 3) := by decide +kernel
theorem dX9_later_43 : decode cX9_later 43 = .ok (.iload_n 2, 1) := by decide +kernel
theorem dX9_later_44 : decode cX9_later 44 = .ok (.invokevirtual 182, 3) := by decide +kernel
theorem dX9_later_47 : decode cX9_later 47 = .ok (.istore_n 3, 1) := by decide +kernel
theorem dX9_later_48 : decode cX9_later 48 = .ok (.aload_n 0, 1) := by decide +kernel
theorem dX9_later_49 : decode cX9_later 49 = .ok (.getfield 19, 3) := by decide +kernel
theorem dX9_later_52 : decode cX9_later 52 = .ok (.aload_n 0, 1) := by decide +kernel
theorem dX9_later_53 : decode cX9_later 53 = .ok (.getfield 33, 3) := by decide +kernel
theorem dX9_later_56 : decode cX9_later 56 = .ok (.getfield 148, 3) := by decide +kernel
theorem dX9_later_59 : decode cX9_later 59 = .ok (.iload_n 1, 1) := by decide +kernel
theorem dX9_later_60 : decode cX9_later 60 = .ok (.iaload, 1) := by decide +kernel
theorem dX9_later_61 : decode cX9_later 61 = .ok (.i2l, 1) := by decide +kernel
theorem dX9_later_62 : decode cX9_later 62 = .ok (.iload_n 3, 1) := by decide +kernel
theorem dX9_later_63 : decode cX9_later 63 = .ok (.i2l, 1) := by decide +kernel
theorem dX9_later_64 : decode cX9_later 64 = .ok (.invokevirtual 227, 3) := by decide +kernel
theorem dX9_later_67 : decode cX9_later 67 = .ok (.aload_n 0, 1) := by decide +kernel
theorem dX9_later_68 : decode cX9_later 68 = .ok (.getfield 33, 3) := by decide +kernel
theorem dX9_later_71 : decode cX9_later 71 = .ok (.getfield 151, 3) := by decide +kernel
theorem dX9_later_74 : decode cX9_later 74 = .ok (.iload_n 1, 1) := by decide +kernel
theorem dX9_later_75 : decode cX9_later 75 = .ok (.iaload, 1) := by decide +kernel
theorem dX9_later_76 : decode cX9_later 76 = .ok (.ireturn, 1) := by decide +kernel
theorem dX9_head_0 : decode cX9_head 0 = .ok (.aload_n 0, 1) := by decide +kernel
theorem dX9_head_1 : decode cX9_head 1 = .ok (.getfield 26, 3) := by decide +kernel
theorem dX9_head_4 : decode cX9_head 4 = .ok (.iload_n 1, 1) := by decide +kernel
theorem dX9_head_5 : decode cX9_head 5 = .ok (.invokevirtual 134, 3) := by decide +kernel
theorem dX9_head_8 : decode cX9_head 8 = .ok (.ifCond .ne 5, 3) := by decide +kernel
theorem dX9_head_11 : decode cX9_head 11 = .ok (.iconst (-1), 1) := by decide +kernel
theorem dX9_head_12 : decode cX9_head 12 = .ok (.ireturn, 1) := by decide +kernel
theorem dX9_head_13 : decode cX9_head 13 = .ok (.aload_n 0, 1) := by decide +kernel
theorem dX9_head_14 : decode cX9_head 14 = .ok (.getfield 33, 3) := by decide +kernel
theorem dX9_head_17 : decode cX9_head 17 = .ok (.aload_n 0, 1) := by decide +kernel
theorem dX9_head_18 : decode cX9_head 18 = .ok (.getfield 26, 3) := by decide +kernel
theorem dX9_head_21 : decode cX9_head 21 = .ok (.invokevirtual 190, 3) := by decide +kernel
theorem dX9_head_24 : decode cX9_head 24 = .ok (.iconst (-1), 1) := by decide +kernel
theorem dX9_head_25 : decode cX9_head 25 = .ok (.istore_n 2, 1) := by decide +kernel
theorem dX9_head_26 : decode cX9_head 26 = .ok (.iconst 0, 1) := by decide +kernel
theorem dX9_head_27 : decode cX9_head 27 = .ok (.istore_n 3, 1) := by decide +kernel
theorem dX9_head_28 : decode cX9_head 28 = .ok (.iload_n 3, 1) := by decide +kernel
theorem dX9_head_29 : decode cX9_head 29 = .ok (.bipush 60, 2) := by decide +kernel
theorem dX9_head_31 : decode cX9_head 31 = .ok (.if_icmp .gt 55, 3) := by decide +kernel
theorem dX9_head_34 : decode cX9_head 34 = .ok (.aload_n 0, 1) := by decide +kernel
theorem dX9_head_35 : decode cX9_head 35 = .ok (.getfield 33, 3) := by decide +kernel
theorem dX9_head_38 : decode cX9_head 38 = .ok (.getfield 151, 3) := by decide +kernel
theorem dX9_head_41 : decode cX9_head 41 = .ok (.iload_n 1, 1) := by decide +kernel
theorem dX9_head_42 : decode cX9_head 42 = .ok (.iaload, 1) := by decide +kernel
theorem dX9_head_43 : decode cX9_head 43 = .ok (.ifCond .ne 14, 3) := by decide +kernel
theorem dX9_head_46 : decode cX9_head 46 = .ok (.aload_n 0, 1) := by decide +kernel
theorem dX9_head_47 : decode cX9_head 47 = .ok (.getfield 19, 3) := by decide +kernel
theorem dX9_head_50 : decode cX9_head 50 = .ok (.iload_n 2, 1) := by decide +kernel
theorem dX9_head_51 : decode cX9_head 51 = .ok (.i2l, 1) := by decide +kernel
theorem dX9_head_52 : decode cX9_head 52 = .ok (.invokevirtual 186, 3) := by decide +kernel
theorem dX9_head_55 : decode cX9_head 55 = .ok (.iload_n 3, 1) := by decide +kernel
theorem dX9_head_56 : decode cX9_head 56 = .ok (.ireturn, 1) := by decide +kernel
theorem dX9_head_57 : decode cX9_head 57 = .ok (.aload_n 0, 1) := by decide +kernel
theorem dX9_head_58 : decode cX9_head 58 = .ok (.getfield 33, 3) := by decide +kernel
theorem dX9_head_61 : decode cX9_head 61 = .ok (.iconst 0, 1) := by decide +kernel
theorem dX9_head_62 : decode cX9_head 62 = .ok (.invokevirtual 154, 3) := by decide +kernel
theorem dX9_head_65 : decode cX9_head 65 = .ok (.istore_n 2, 1) := by decide +kernel
theorem dX9_head_66 : decode cX9_head 66 = .ok (.aload_n 0, 1) := by decide +kernel
theorem dX9_head_67 : decode cX9_head 67 = .ok (.aload_n 0, 1) := by decide +kernel
theorem dX9_head_68 : decode cX9_head 68 = .ok (.getfield 33, 3) := by decide +kernel
theorem dX9_head_71 : decode cX9_head 71 = .ok (.aload_n 0, 1) := by decide +kernel
theorem dX9_head_72 : decode cX9_head 72 = .ok (.getfield 100, 3) := by decide +kernel
theorem dX9_head_75 : decode cX9_head 75 = .ok (.iconst 1, 1) := by decide +kernel
theorem dX9_head_76 : decode cX9_head 76 = .ok (.invokevirtual 182, 3) := by decide +kernel
theorem dX9_head_79 : decode cX9_head 79 = .ok (.pop, 1) := by decide +kernel
theorem dX9_head_80 : decode cX9_head 80 = .ok (.iinc 3 1, 3) := by decide +kernel
theorem dX9_head_83 : decode cX9_head 83 = .ok (.goto (-55), 3) := by decide +kernel
theorem dX9_head_86 : decode cX9_head 86 = .ok (.bipush (-2), 2) := by decide +kernel
theorem dX9_head_88 : decode cX9_head 88 = .ok (.ireturn, 1) := by decide +kernel
theorem dX9_bumps_0 : decode cX9_bumps 0 = .ok (.aload_n 0, 1) := by decide +kernel
theorem dX9_bumps_1 : decode cX9_bumps 1 = .ok (.getfield 26, 3) := by decide +kernel
theorem dX9_bumps_4 : decode cX9_bumps 4 = .ok (.iload_n 1, 1) := by decide +kernel
theorem dX9_bumps_5 : decode cX9_bumps 5 = .ok (.invokevirtual 134, 3) := by decide +kernel
theorem dX9_bumps_8 : decode cX9_bumps 8 = .ok (.ifCond .eq 19, 3) := by decide +kernel
theorem dX9_bumps_11 : decode cX9_bumps 11 = .ok (.aload_n 0, 1) := by decide +kernel
theorem dX9_bumps_12 : decode cX9_bumps 12 = .ok (.getfield 26, 3) := by decide +kernel
theorem dX9_bumps_15 : decode cX9_bumps 15 = .ok (.iload_n 2, 1) := by decide +kernel
theorem dX9_bumps_16 : decode cX9_bumps 16 = .ok (.invokevirtual 134, 3) := by decide +kernel
theorem dX9_bumps_19 : decode cX9_bumps 19 = .ok (.ifCond .eq 8, 3) := by decide +kernel
theorem dX9_bumps_22 : decode cX9_bumps 22 = .ok (.iload_n 1, 1) := by decide +kernel
theorem dX9_bumps_23 : decode cX9_bumps 23 = .ok (.iload_n 2, 1) := by decide +kernel
theorem dX9_bumps_24 : decode cX9_bumps 24 = .ok (.if_icmp .ne 5, 3) := by decide +kernel
theorem dX9_bumps_27 : decode cX9_bumps 27 = .ok (.iconst (-1), 1) := by decide +kernel
theorem dX9_bumps_28 : decode cX9_bumps 28 = .ok (.ireturn, 1) := by decide +kernel
theorem dX9_bumps_29 : decode cX9_bumps 29 = .ok (.aload_n 0, 1) := by decide +kernel
theorem dX9_bumps_30 : decode cX9_bumps 30 = .ok (.getfield 33, 3) := by decide +kernel
theorem dX9_bumps_33 : decode cX9_bumps 33 = .ok (.aload_n 0, 1) := by decide +kernel
theorem dX9_bumps_34 : decode cX9_bumps 34 = .ok (.getfield 26, 3) := by decide +kernel
theorem dX9_bumps_37 : decode cX9_bumps 37 = .ok (.invokevirtual 190, 3) := by decide +kernel
theorem dX9_bumps_40 : decode cX9_bumps 40 = .ok (.bipush (-2), 2) := by decide +kernel
theorem dX9_bumps_42 : decode cX9_bumps 42 = .ok (.istore_n 3, 1) := by decide +kernel
theorem dX9_bumps_43 : decode cX9_bumps 43 = .ok (.iconst 0, 1) := by decide +kernel
theorem dX9_bumps_44 : decode cX9_bumps 44 = .ok (.istore 4, 2) := by decide +kernel
theorem dX9_bumps_46 : decode cX9_bumps 46 = .ok (.iconst 1, 1) := by decide +kernel
theorem dX9_bumps_47 : decode cX9_bumps 47 = .ok (.istore 5, 2) := by decide +kernel
theorem dX9_bumps_49 : decode cX9_bumps 49 = .ok (.iload 5, 2) := by decide +kernel
theorem dX9_bumps_51 : decode cX9_bumps 51 = .ok (.bipush 60, 2) := by decide +kernel
theorem dX9_bumps_53 : decode cX9_bumps 53 = .ok (.if_icmp .gt 50, 3) := by decide +kernel
theorem dX9_bumps_56 : decode cX9_bumps 56 = .ok (.aload_n 0, 1) := by decide +kernel
theorem dX9_bumps_57 : decode cX9_bumps 57 = .ok (.aload_n 0, 1) := by decide +kernel
theorem dX9_bumps_58 : decode cX9_bumps 58 = .ok (.getfield 33, 3) := by decide +kernel
theorem dX9_bumps_61 : decode cX9_bumps 61 = .ok (.aload_n 0, 1) := by decide +kernel
theorem dX9_bumps_62 : decode cX9_bumps 62 = .ok (.getfield 100, 3) := by decide +kernel
theorem dX9_bumps_65 : decode cX9_bumps 65 = .ok (.iconst 1, 1) := by decide +kernel
theorem dX9_bumps_66 : decode cX9_bumps 66 = .ok (.invokevirtual 182, 3) := by decide +kernel
theorem dX9_bumps_69 : decode cX9_bumps 69 = .ok (.pop, 1) := by decide +kernel
theorem dX9_bumps_70 : decode cX9_bumps 70 = .ok (.aload_n 0, 1) := by decide +kernel
theorem dX9_bumps_71 : decode cX9_bumps 71 = .ok (.getfield 64, 3) := by decide +kernel
theorem dX9_bumps_74 : decode cX9_bumps 74 = .ok (.iload_n 1, 1) := by decide +kernel
theorem dX9_bumps_75 : decode cX9_bumps 75 = .ok (.invokevirtual 161, 3) := by decide +kernel
theorem dX9_bumps_78 : decode cX9_bumps 78 = .ok (.iload_n 2, 1) := by decide +kernel
theorem dX9_bumps_79 : decode cX9_bumps 79 = .ok (.if_icmp .ne 18, 3) := by decide +kernel
theorem dX9_bumps_82 : decode cX9_bumps 82 = .ok (.iload 4, 2) := by decide +kernel
theorem dX9_bumps_84 : decode cX9_bumps 84 = .ok (.ifCond .ne 8, 3) := by decide +kernel
theorem dX9_bumps_87 : decode cX9_bumps 87 = .ok (.iload 5, 2) := by decide +kernel
theorem dX9_bumps_89 : decode cX9_bumps 89 = .ok (.goto 4, 3) := by decide +kernel
theorem dX9_bumps_92 : decode cX9_bumps 92 = .ok (.iload_n 3, 1) := by decide +kernel
theorem dX9_bumps_93 : decode cX9_bumps 93 = .ok (.istore_n 3, 1) := by decide +kernel
theorem dX9_bumps_94 : decode cX9_bumps 94 = .ok (.iinc 4 1, 3) := by decide +kernel
theorem dX9_bumps_97 : decode cX9_bumps 97 = .ok (.iinc 5 1, 3) := by decide +kernel
theorem dX9_bumps_100 : decode cX9_bumps 100 = .ok (.goto (-51), 3) := by decide +kernel
theorem dX9_bumps_103 : decode cX9_bumps 103 = .ok (.iload 4, 2) := by decide +kernel
theorem dX9_bumps_105 : decode cX9_bumps 105 = .ok (.ifCond .le 13, 3) := by decide +kernel
theorem dX9_bumps_108 : decode cX9_bumps 108 = .ok (.aload_n 0, 1) := by decide +kernel
theorem dX9_bumps_109 : decode cX9_bumps 109 = .ok (.getfield 19, 3) := by decide +kernel
theorem dX9_bumps_112 : decode cX9_bumps 112 = .ok (.iload 4, 2) := by decide +kernel
theorem dX9_bumps_114 : decode cX9_bumps 114 = .ok (.i2l, 1) := by decide +kernel
theorem dX9_bumps_115 : decode cX9_bumps 115 = .ok (.invokevirtual 186, 3) := by decide +kernel
theorem dX9_bumps_118 : decode cX9_bumps 118 = .ok (.iload_n 3, 1) := by decide +kernel
theorem dX9_bumps_119 : decode cX9_bumps 119 = .ok (.ireturn, 1) := by decide +kernel
theorem dX9_blades_0 : decode cX9_blades 0 = .ok (.iload_n 1, 1) := by decide +kernel
theorem dX9_blades_1 : decode cX9_blades 1 = .ok (.iconst 1, 1) := by decide +kernel
theorem dX9_blades_2 : decode cX9_blades 2 = .ok (.if_icmp .lt 9, 3) := by decide +kernel
theorem dX9_blades_5 : decode cX9_blades 5 = .ok (.iload_n 1, 1) := by decide +kernel
theorem dX9_blades_6 : decode cX9_blades 6 = .ok (.bipush 9, 2) := by decide +kernel
theorem dX9_blades_8 : decode cX9_blades 8 = .ok (.if_icmp .le 5, 3) := by decide +kernel
theorem dX9_blades_11 : decode cX9_blades 11 = .ok (.iconst (-1), 1) := by decide +kernel
theorem dX9_blades_12 : decode cX9_blades 12 = .ok (.ireturn, 1) := by decide +kernel
theorem dX9_blades_13 : decode cX9_blades 13 = .ok (.aload_n 0, 1) := by decide +kernel
theorem dX9_blades_14 : decode cX9_blades 14 = .ok (.getfield 33, 3) := by decide +kernel
theorem dX9_blades_17 : decode cX9_blades 17 = .ok (.aload_n 0, 1) := by decide +kernel
theorem dX9_blades_18 : decode cX9_blades 18 = .ok (.getfield 26, 3) := by decide +kernel
theorem dX9_blades_21 : decode cX9_blades 21 = .ok (.invokevirtual 190, 3) := by decide +kernel
theorem dX9_blades_24 : decode cX9_blades 24 = .ok (.iconst 1, 1) := by decide +kernel
theorem dX9_blades_25 : decode cX9_blades 25 = .ok (.aload_n 0, 1) := by decide +kernel
theorem dX9_blades_26 : decode cX9_blades 26 = .ok (.getfield 26, 3) := by decide +kernel
theorem dX9_blades_29 : decode cX9_blades 29 = .ok (.getfield 282, 3) := by decide +kernel
theorem dX9_blades_32 : decode cX9_blades 32 = .ok (.ishl, 1) := by decide +kernel
theorem dX9_blades_33 : decode cX9_blades 33 = .ok (.iconst 1, 1) := by decide +kernel
theorem dX9_blades_34 : decode cX9_blades 34 = .ok (.isub, 1) := by decide +kernel
theorem dX9_blades_35 : decode cX9_blades 35 = .ok (.istore_n 2, 1) := by decide +kernel
theorem dX9_blades_36 : decode cX9_blades 36 = .ok (.iload_n 2, 1) := by decide +kernel
theorem dX9_blades_37 : decode cX9_blades 37 = .ok (.istore_n 3, 1) := by decide +kernel
theorem dX9_blades_38 : decode cX9_blades 38 = .ok (.iconst 0, 1) := by decide +kernel
theorem dX9_blades_39 : decode cX9_blades 39 = .ok (.istore 4, 2) := by decide +kernel
theorem dX9_blades_41 : decode cX9_blades 41 = .ok (.iload 4, 2) := by decide +kernel
theorem dX9_blades_43 : decode cX9_blades 43 = .ok (.iload_n 1, 1) := by decide +kernel
theorem dX9_blades_44 : decode cX9_blades 44 = .ok (.if_icmp .ge 43, 3) := by decide +kernel
theorem dX9_blades_47 : decode cX9_blades 47 = .ok (.aload_n 0, 1) := by decide +kernel
theorem dX9_blades_48 : decode cX9_blades 48 = .ok (.aload_n 0, 1) := by decide +kernel
theorem dX9_blades_49 : decode cX9_blades 49 = .ok (.getfield 33, 3) := by decide +kernel
theorem dX9_blades_52 : decode cX9_blades 52 = .ok (.aload_n 0, 1) := by decide +kernel
theorem dX9_blades_53 : decode cX9_blades 53 = .ok (.getfield 100, 3) := by decide +kernel
theorem dX9_blades_56 : decode cX9_blades 56 = .ok (.iconst 1, 1) := by decide +kernel
theorem dX9_blades_57 : decode cX9_blades 57 = .ok (.invokevirtual 182, 3) := by decide +kernel
theorem dX9_blades_60 : decode cX9_blades 60 = .ok (.pop, 1) := by decide +kernel
theorem dX9_blades_61 : decode cX9_blades 61 = .ok (.iload_n 2, 1) := by decide +kernel
theorem dX9_blades_62 : decode cX9_blades 62 = .ok (.aload_n 0, 1) := by decide +kernel
theorem dX9_blades_63 : decode cX9_blades 63 = .ok (.getfield 64, 3) := by decide +kernel
theorem dX9_blades_66 : decode cX9_blades 66 = .ok (.invokevirtual 263, 3) := by decide +kernel
theorem dX9_blades_69 : decode cX9_blades 69 = .ok (.iand, 1) := by decide +kernel
theorem dX9_blades_70 : decode cX9_blades 70 = .ok (.istore_n 2, 1) := by decide +kernel
theorem dX9_blades_71 : decode cX9_blades 71 = .ok (.iload_n 3, 1) := by decide +kernel
theorem dX9_blades_72 : decode cX9_blades 72 = .ok (.aload_n 0, 1) := by decide +kernel
theorem dX9_blades_73 : decode cX9_blades 73 = .ok (.getfield 64, 3) := by decide +kernel
theorem dX9_blades_76 : decode cX9_blades 76 = .ok (.invokevirtual 266, 3) := by decide +kernel
theorem dX9_blades_79 : decode cX9_blades 79 = .ok (.iand, 1) := by decide +kernel
theorem dX9_blades_80 : decode cX9_blades 80 = .ok (.istore_n 3, 1) := by decide +kernel
theorem dX9_blades_81 : decode cX9_blades 81 = .ok (.iinc 4 1, 3) := by decide +kernel
theorem dX9_blades_84 : decode cX9_blades 84 = .ok (.goto (-43), 3) := by decide +kernel
theorem dX9_blades_87 : decode cX9_blades 87 = .ok (.aload_n 0, 1) := by decide +kernel
theorem dX9_blades_88 : decode cX9_blades 88 = .ok (.getfield 19, 3) := by decide +kernel
theorem dX9_blades_91 : decode cX9_blades 91 = .ok (.iload_n 3, 1) := by decide +kernel
theorem dX9_blades_92 : decode cX9_blades 92 = .ok (.i2l, 1) := by decide +kernel
theorem dX9_blades_93 : decode cX9_blades 93 = .ok (.invokevirtual 186, 3) := by decide +kernel
theorem dX9_blades_96 : decode cX9_blades 96 = .ok (.iload_n 2, 1) := by decide +kernel
theorem dX9_blades_97 : decode cX9_blades 97 = .ok (.ireturn, 1) := by decide +kernel
theorem dX9_isSeen_0 : decode cX9_isSeen 0 = .ok (.iconst 0, 1) := by decide +kernel
theorem dX9_isSeen_1 : decode cX9_isSeen 1 = .ok (.istore_n 3, 1) := by decide +kernel
theorem dX9_isSeen_2 : decode cX9_isSeen 2 = .ok (.iload_n 3, 1) := by decide +kernel
theorem dX9_isSeen_3 : decode cX9_isSeen 3 = .ok (.iload_n 2, 1) := by decide +kernel
theorem dX9_isSeen_4 : decode cX9_isSeen 4 = .ok (.if_icmp .ge 30, 3) := by decide +kernel
theorem dX9_isSeen_7 : decode cX9_isSeen 7 = .ok (.iload_n 3, 1) := by decide +kernel
theorem dX9_isSeen_8 : decode cX9_isSeen 8 = .ok (.aload_n 0, 1) := by decide +kernel
theorem dX9_isSeen_9 : decode cX9_isSeen 9 = .ok (.getfield 89, 3) := by decide +kernel
theorem dX9_isSeen_12 : decode cX9_isSeen 12 = .ok (.arraylength, 1) := by decide +kernel
theorem dX9_isSeen_13 : decode cX9_isSeen 13 = .ok (.if_icmp .ge 21, 3) := by decide +kernel
theorem dX9_isSeen_16 : decode cX9_isSeen 16 = .ok (.aload_n 0, 1) := by decide +kernel
theorem dX9_isSeen_17 : decode cX9_isSeen 17 = .ok (.getfield 89, 3) := by decide +kernel
theorem dX9_isSeen_20 : decode cX9_isSeen 20 = .ok (.iload_n 3, 1) := by decide +kernel
theorem dX9_isSeen_21 : decode cX9_isSeen 21 = .ok (.iaload, 1) := by decide +kernel
theorem dX9_isSeen_22 : decode cX9_isSeen 22 = .ok (.iload_n 1, 1) := by decide +kernel
theorem dX9_isSeen_23 : decode cX9_isSeen 23 = .ok (.if_icmp .ne 5, 3) := by decide +kernel
theorem dX9_isSeen_26 : decode cX9_isSeen 26 = .ok (.iconst 1, 1) := by decide +kernel
theorem dX9_isSeen_27 : decode cX9_isSeen 27 = .ok (.ireturn, 1) := by decide +kernel
theorem dX9_isSeen_28 : decode cX9_isSeen 28 = .ok (.iinc 3 1, 3) := by decide +kernel
theorem dX9_isSeen_31 : decode cX9_isSeen 31 = .ok (.goto (-29), 3) := by decide +kernel
theorem dX9_isSeen_34 : decode cX9_isSeen 34 = .ok (.iconst 0, 1) := by decide +kernel
theorem dX9_isSeen_35 : decode cX9_isSeen 35 = .ok (.ireturn, 1) := by decide +kernel
theorem dX9_round_0 : decode cX9_round 0 = .ok (.aload_n 0, 1) := by decide +kernel
theorem dX9_round_1 : decode cX9_round 1 = .ok (.getfield 33, 3) := by decide +kernel
theorem dX9_round_4 : decode cX9_round 4 = .ok (.aload_n 0, 1) := by decide +kernel
theorem dX9_round_5 : decode cX9_round 5 = .ok (.getfield 26, 3) := by decide +kernel
theorem dX9_round_8 : decode cX9_round 8 = .ok (.invokevirtual 190, 3) := by decide +kernel
theorem dX9_round_11 : decode cX9_round 11 = .ok (.aload_n 0, 1) := by decide +kernel
theorem dX9_round_12 : decode cX9_round 12 = .ok (.getfield 26, 3) := by decide +kernel
theorem dX9_round_15 : decode cX9_round 15 = .ok (.invokevirtual 285, 3) := by decide +kernel
theorem dX9_round_18 : decode cX9_round 18 = .ok (.istore_n 1, 1) := by decide +kernel
theorem dX9_round_19 : decode cX9_round 19 = .ok (.iconst 1, 1) := by decide +kernel
theorem dX9_round_20 : decode cX9_round 20 = .ok (.istore_n 2, 1) := by decide +kernel
theorem dX9_round_21 : decode cX9_round 21 = .ok (.aload_n 0, 1) := by decide +kernel
theorem dX9_round_22 : decode cX9_round 22 = .ok (.getfield 89, 3) := by decide +kernel
theorem dX9_round_25 : decode cX9_round 25 = .ok (.iconst 0, 1) := by decide +kernel
theorem dX9_round_26 : decode cX9_round 26 = .ok (.iload_n 1, 1) := by decide +kernel
theorem dX9_round_27 : decode cX9_round 27 = .ok (.iastore, 1) := by decide +kernel
theorem dX9_round_28 : decode cX9_round 28 = .ok (.iconst 1, 1) := by decide +kernel
theorem dX9_round_29 : decode cX9_round 29 = .ok (.istore_n 3, 1) := by decide +kernel
theorem dX9_round_30 : decode cX9_round 30 = .ok (.iload_n 3, 1) := by decide +kernel
theorem dX9_round_31 : decode cX9_round 31 = .ok (.bipush 60, 2) := by decide +kernel
theorem dX9_round_33 : decode cX9_round 33 = .ok (.if_icmp .gt 70, 3) := by decide +kernel
theorem dX9_round_36 : decode cX9_round 36 = .ok (.aload_n 0, 1) := by decide +kernel
theorem dX9_round_37 : decode cX9_round 37 = .ok (.aload_n 0, 1) := by decide +kernel
theorem dX9_round_38 : decode cX9_round 38 = .ok (.getfield 33, 3) := by decide +kernel
theorem dX9_round_41 : decode cX9_round 41 = .ok (.aload_n 0, 1) := by decide +kernel
theorem dX9_round_42 : decode cX9_round 42 = .ok (.getfield 100, 3) := by decide +kernel
theorem dX9_round_45 : decode cX9_round 45 = .ok (.iconst 1, 1) := by decide +kernel
theorem dX9_round_46 : decode cX9_round 46 = .ok (.invokevirtual 182, 3) := by decide +kernel
theorem dX9_round_49 : decode cX9_round 49 = .ok (.pop, 1) := by decide +kernel
theorem dX9_round_50 : decode cX9_round 50 = .ok (.aload_n 0, 1) := by decide +kernel
theorem dX9_round_51 : decode cX9_round 51 = .ok (.getfield 33, 3) := by decide +kernel
theorem dX9_round_54 : decode cX9_round 54 = .ok (.invokevirtual 285, 3) := by decide +kernel
theorem dX9_round_57 : decode cX9_round 57 = .ok (.istore 4, 2) := by decide +kernel
theorem dX9_round_59 : decode cX9_round 59 = .ok (.iload 4, 2) := by decide +kernel
theorem dX9_round_61 : decode cX9_round 61 = .ok (.iload_n 1, 1) := by decide +kernel
theorem dX9_round_62 : decode cX9_round 62 = .ok (.if_icmp .ne 14, 3) := by decide +kernel
theorem dX9_round_65 : decode cX9_round 65 = .ok (.aload_n 0, 1) := by decide +kernel
theorem dX9_round_66 : decode cX9_round 66 = .ok (.getfield 19, 3) := by decide +kernel
theorem dX9_round_69 : decode cX9_round 69 = .ok (.iload_n 2, 1) := by decide +kernel
theorem dX9_round_70 : decode cX9_round 70 = .ok (.i2l, 1) := by decide +kernel
theorem dX9_round_71 : decode cX9_round 71 = .ok (.invokevirtual 186, 3) := by decide +kernel
theorem dX9_round_74 : decode cX9_round 74 = .ok (.iload_n 3, 1) := by decide +kernel
theorem dX9_round_75 : decode cX9_round 75 = .ok (.ireturn, 1) := by decide +kernel
theorem dX9_round_76 : decode cX9_round 76 = .ok (.aload_n 0, 1) := by decide +kernel
theorem dX9_round_77 : decode cX9_round 77 = .ok (.iload 4, 2) := by decide +kernel
theorem dX9_round_79 : decode cX9_round 79 = .ok (.iload_n 2, 1) := by decide +kernel
theorem dX9_round_80 : decode cX9_round 80 = .ok (.invokevirtual 288, 3) := by decide +kernel
theorem dX9_round_83 : decode cX9_round 83 = .ok (.ifCond .ne 14, 3) := by decide +kernel
theorem dX9_round_86 : decode cX9_round 86 = .ok (.aload_n 0, 1) := by decide +kernel
theorem dX9_round_87 : decode cX9_round 87 = .ok (.getfield 89, 3) := by decide +kernel
theorem dX9_round_90 : decode cX9_round 90 = .ok (.iload_n 2, 1) := by decide +kernel
theorem dX9_round_91 : decode cX9_round 91 = .ok (.iload 4, 2) := by decide +kernel
theorem dX9_round_93 : decode cX9_round 93 = .ok (.iastore, 1) := by decide +kernel
theorem dX9_round_94 : decode cX9_round 94 = .ok (.iinc 2 1, 3) := by decide +kernel
theorem dX9_round_97 : decode cX9_round 97 = .ok (.iinc 3 1, 3) := by decide +kernel
theorem dX9_round_100 : decode cX9_round 100 = .ok (.goto (-70), 3) := by decide +kernel
theorem dX9_round_103 : decode cX9_round 103 = .ok (.bipush (-2), 2) := by decide +kernel
theorem dX9_round_105 : decode cX9_round 105 = .ok (.ireturn, 1) := by decide +kernel
theorem dX9_sets_0 : decode cX9_sets 0 = .ok (.aload_n 0, 1) := by decide +kernel
theorem dX9_sets_1 : decode cX9_sets 1 = .ok (.getfield 71, 3) := by decide +kernel
theorem dX9_sets_4 : decode cX9_sets 4 = .ok (.aload_n 0, 1) := by decide +kernel
theorem dX9_sets_5 : decode cX9_sets 5 = .ok (.getfield 26, 3) := by decide +kernel
theorem dX9_sets_8 : decode cX9_sets 8 = .ok (.getfield 282, 3) := by decide +kernel
theorem dX9_sets_11 : decode cX9_sets 11 = .ok (.invokevirtual 292, 3) := by decide +kernel
theorem dX9_sets_14 : decode cX9_sets 14 = .ok (.aload_n 0, 1) := by decide +kernel
theorem dX9_sets_15 : decode cX9_sets 15 = .ok (.getfield 19, 3) := by decide +kernel
theorem dX9_sets_18 : decode cX9_sets 18 = .ok (.aload_n 0, 1) := by decide +kernel
theorem dX9_sets_19 : decode cX9_sets 19 = .ok (.getfield 71, 3) := by decide +kernel
theorem dX9_sets_22 : decode cX9_sets 22 = .ok (.getfield 295, 3) := by decide +kernel
theorem dX9_sets_25 : decode cX9_sets 25 = .ok (.i2l, 1) := by decide +kernel
theorem dX9_sets_26 : decode cX9_sets 26 = .ok (.aload_n 0, 1) := by decide +kernel
theorem dX9_sets_27 : decode cX9_sets 27 = .ok (.getfield 71, 3) := by decide +kernel
theorem dX9_sets_30 : decode cX9_sets 30 = .ok (.getfield 298, 3) := by decide +kernel
theorem dX9_sets_33 : decode cX9_sets 33 = .ok (.i2l, 1) := by decide +kernel
theorem dX9_sets_34 : decode cX9_sets 34 = .ok (.invokevirtual 227, 3) := by decide +kernel
theorem dX9_sets_37 : decode cX9_sets 37 = .ok (.aload_n 0, 1) := by decide +kernel
theorem dX9_sets_38 : decode cX9_sets 38 = .ok (.getfield 71, 3) := by decide +kernel
theorem dX9_sets_41 : decode cX9_sets 41 = .ok (.getfield 301, 3) := by decide +kernel
theorem dX9_sets_44 : decode cX9_sets 44 = .ok (.ireturn, 1) := by decide +kernel
theorem dX9_orders_0 : decode cX9_orders 0 = .ok (.iload_n 1, 1) := by decide +kernel
theorem dX9_orders_1 : decode cX9_orders 1 = .ok (.ifCond .lt 9, 3) := by decide +kernel
theorem dX9_orders_4 : decode cX9_orders 4 = .ok (.iload_n 1, 1) := by decide +kernel
theorem dX9_orders_5 : decode cX9_orders 5 = .ok (.bipush 6, 2) := by decide +kernel
theorem dX9_orders_7 : decode cX9_orders 7 = .ok (.if_icmp .le 5, 3) := by decide +kernel
theorem dX9_orders_10 : decode cX9_orders 10 = .ok (.iconst (-1), 1) := by decide +kernel
theorem dX9_orders_11 : decode cX9_orders 11 = .ok (.ireturn, 1) := by decide +kernel
theorem dX9_orders_12 : decode cX9_orders 12 = .ok (.aload_n 0, 1) := by decide +kernel
theorem dX9_orders_13 : decode cX9_orders 13 = .ok (.getfield 71, 3) := by decide +kernel
theorem dX9_orders_16 : decode cX9_orders 16 = .ok (.aload_n 0, 1) := by decide +kernel
theorem dX9_orders_17 : decode cX9_orders 17 = .ok (.getfield 26, 3) := by decide +kernel
theorem dX9_orders_20 : decode cX9_orders 20 = .ok (.getfield 282, 3) := by decide +kernel
theorem dX9_orders_23 : decode cX9_orders 23 = .ok (.invokevirtual 292, 3) := by decide +kernel
theorem dX9_orders_26 : decode cX9_orders 26 = .ok (.aload_n 0, 1) := by decide +kernel
theorem dX9_orders_27 : decode cX9_orders 27 = .ok (.getfield 71, 3) := by decide +kernel
theorem dX9_orders_30 : decode cX9_orders 30 = .ok (.iload_n 1, 1) := by decide +kernel
theorem dX9_orders_31 : decode cX9_orders 31 = .ok (.invokevirtual 304, 3) := by decide +kernel
theorem dX9_orders_34 : decode cX9_orders 34 = .ok (.istore_n 2, 1) := by decide +kernel
theorem dX9_orders_35 : decode cX9_orders 35 = .ok (.aload_n 0, 1) := by decide +kernel
theorem dX9_orders_36 : decode cX9_orders 36 = .ok (.getfield 19, 3) := by decide +kernel
theorem dX9_orders_39 : decode cX9_orders 39 = .ok (.iload_n 2, 1) := by decide +kernel
theorem dX9_orders_40 : decode cX9_orders 40 = .ok (.aload_n 0, 1) := by decide +kernel
theorem dX9_orders_41 : decode cX9_orders 41 = .ok (.getfield 71, 3) := by decide +kernel
theorem dX9_orders_44 : decode cX9_orders 44 = .ok (.iload_n 1, 1) := by decide +kernel
theorem dX9_orders_45 : decode cX9_orders 45 = .ok (.iconst 1, 1) := by decide +kernel
theorem dX9_orders_46 : decode cX9_orders 46 = .ok (.isub, 1) := by decide +kernel
theorem dX9_orders_47 : decode cX9_orders 47 = .ok (.invokevirtual 304, 3) := by decide +kernel
theorem dX9_orders_50 : decode cX9_orders 50 = .ok (.isub, 1) := by decide +kernel
theorem dX9_orders_51 : decode cX9_orders 51 = .ok (.i2l, 1) := by decide +kernel
theorem dX9_orders_52 : decode cX9_orders 52 = .ok (.invokevirtual 186, 3) := by decide +kernel
theorem dX9_orders_55 : decode cX9_orders 55 = .ok (.iload_n 2, 1) := by decide +kernel
theorem dX9_orders_56 : decode cX9_orders 56 = .ok (.ireturn, 1) := by decide +kernel
theorem dX9_best_0 : decode cX9_best 0 = .ok (.aload_n 0, 1) := by decide +kernel
theorem dX9_best_1 : decode cX9_best 1 = .ok (.getfield 26, 3) := by decide +kernel
theorem dX9_best_4 : decode cX9_best 4 = .ok (.iload_n 1, 1) := by decide +kernel
theorem dX9_best_5 : decode cX9_best 5 = .ok (.invokevirtual 134, 3) := by decide +kernel
theorem dX9_best_8 : decode cX9_best 8 = .ok (.ifCond .eq 13, 3) := by decide +kernel
theorem dX9_best_11 : decode cX9_best 11 = .ok (.iload_n 2, 1) := by decide +kernel
theorem dX9_best_12 : decode cX9_best 12 = .ok (.ifCond .lt 9, 3) := by decide +kernel
theorem dX9_best_15 : decode cX9_best 15 = .ok (.iload_n 2, 1) := by decide +kernel
theorem dX9_best_16 : decode cX9_best 16 = .ok (.bipush 6, 2) := by decide +kernel
theorem dX9_best_18 : decode cX9_best 18 = .ok (.if_icmp .le 5, 3) := by decide +kernel
theorem dX9_best_21 : decode cX9_best 21 = .ok (.iconst (-1), 1) := by decide +kernel
theorem dX9_best_22 : decode cX9_best 22 = .ok (.ireturn, 1) := by decide +kernel
theorem dX9_best_23 : decode cX9_best 23 = .ok (.aload_n 0, 1) := by decide +kernel
theorem dX9_best_24 : decode cX9_best 24 = .ok (.getfield 71, 3) := by decide +kernel
theorem dX9_best_27 : decode cX9_best 27 = .ok (.aload_n 0, 1) := by decide +kernel
theorem dX9_best_28 : decode cX9_best 28 = .ok (.getfield 26, 3) := by decide +kernel
theorem dX9_best_31 : decode cX9_best 31 = .ok (.getfield 282, 3) := by decide +kernel
theorem dX9_best_34 : decode cX9_best 34 = .ok (.invokevirtual 292, 3) := by decide +kernel
theorem dX9_best_37 : decode cX9_best 37 = .ok (.aload_n 0, 1) := by decide +kernel
theorem dX9_best_38 : decode cX9_best 38 = .ok (.getfield 71, 3) := by decide +kernel
theorem dX9_best_41 : decode cX9_best 41 = .ok (.aload_n 0, 1) := by decide +kernel
theorem dX9_best_42 : decode cX9_best 42 = .ok (.getfield 26, 3) := by decide +kernel
theorem dX9_best_45 : decode cX9_best 45 = .ok (.getfield 151, 3) := by decide +kernel
theorem dX9_best_48 : decode cX9_best 48 = .ok (.iload_n 1, 1) := by decide +kernel
theorem dX9_best_49 : decode cX9_best 49 = .ok (.iaload, 1) := by decide +kernel
theorem dX9_best_50 : decode cX9_best 50 = .ok (.iload_n 2, 1) := by decide +kernel
theorem dX9_best_51 : decode cX9_best 51 = .ok (.invokevirtual 307, 3) := by decide +kernel
theorem dX9_best_54 : decode cX9_best 54 = .ok (.iconst 0, 1) := by decide +kernel
theorem dX9_best_55 : decode cX9_best 55 = .ok (.istore_n 3, 1) := by decide +kernel
theorem dX9_best_56 : decode cX9_best 56 = .ok (.iconst 0, 1) := by decide +kernel
theorem dX9_best_57 : decode cX9_best 57 = .ok (.istore 4, 2) := by decide +kernel
theorem dX9_best_59 : decode cX9_best 59 = .ok (.aload_n 0, 1) := by decide +kernel
theorem dX9_best_60 : decode cX9_best 60 = .ok (.getfield 26, 3) := by decide +kernel
theorem dX9_best_63 : decode cX9_best 63 = .ok (.getfield 282, 3) := by decide +kernel
theorem dX9_best_66 : decode cX9_best 66 = .ok (.iconst 1, 1) := by decide +kernel
theorem dX9_best_67 : decode cX9_best 67 = .ok (.isub, 1) := by decide +kernel
theorem dX9_best_68 : decode cX9_best 68 = .ok (.istore 5, 2) := by decide +kernel
theorem dX9_best_70 : decode cX9_best 70 = .ok (.iload 5, 2) := by decide +kernel
theorem dX9_best_72 : decode cX9_best 72 = .ok (.ifCond .lt 29, 3) := by decide +kernel
theorem dX9_best_75 : decode cX9_best 75 = .ok (.aload_n 0, 1) := by decide +kernel
theorem dX9_best_76 : decode cX9_best 76 = .ok (.getfield 71, 3) := by decide +kernel
theorem dX9_best_79 : decode cX9_best 79 = .ok (.getfield 310, 3) := by decide +kernel
theorem dX9_best_82 : decode cX9_best 82 = .ok (.iload 5, 2) := by decide +kernel
theorem dX9_best_84 : decode cX9_best 84 = .ok (.iaload, 1) := by decide +kernel
theorem dX9_best_85 : decode cX9_best 85 = .ok (.ifCond .le 8, 3) := by decide +kernel
theorem dX9_best_88 : decode cX9_best 88 = .ok (.iload 5, 2) := by decide +kernel
theorem dX9_best_90 : decode cX9_best 90 = .ok (.goto 4, 3) := by decide +kernel
theorem dX9_best_93 : decode cX9_best 93 = .ok (.iload_n 3, 1) := by decide +kernel
theorem dX9_best_94 : decode cX9_best 94 = .ok (.istore_n 3, 1) := by decide +kernel
theorem dX9_best_95 : decode cX9_best 95 = .ok (.iinc 5 (-1), 3) := by decide +kernel
theorem dX9_best_98 : decode cX9_best 98 = .ok (.goto (-28), 3) := by decide +kernel
theorem dX9_best_101 : decode cX9_best 101 = .ok (.iconst 0, 1) := by decide +kernel
theorem dX9_best_102 : decode cX9_best 102 = .ok (.istore 5, 2) := by decide +kernel
theorem dX9_best_104 : decode cX9_best 104 = .ok (.iload 5, 2) := by decide +kernel
theorem dX9_best_106 : decode cX9_best 106 = .ok (.aload_n 0, 1) := by decide +kernel
theorem dX9_best_107 : decode cX9_best 107 = .ok (.getfield 26, 3) := by decide +kernel
theorem dX9_best_110 : decode cX9_best 110 = .ok (.getfield 282, 3) := by decide +kernel
theorem dX9_best_113 : decode cX9_best 113 = .ok (.if_icmp .ge 31, 3) := by decide +kernel
theorem dX9_best_116 : decode cX9_best 116 = .ok (.aload_n 0, 1) := by decide +kernel
theorem dX9_best_117 : decode cX9_best 117 = .ok (.getfield 71, 3) := by decide +kernel
theorem dX9_best_120 : decode cX9_best 120 = .ok (.getfield 310, 3) := by decide +kernel
theorem dX9_best_123 : decode cX9_best 123 = .ok (.iload 5, 2) := by decide +kernel
theorem dX9_best_125 : decode cX9_best 125 = .ok (.iaload, 1) := by decide +kernel
theorem dX9_best_126 : decode cX9_best 126 = .ok (.ifCond .le 8, 3) := by decide +kernel
theorem dX9_best_129 : decode cX9_best 129 = .ok (.iload 5, 2) := by decide +kernel
theorem dX9_best_131 : decode cX9_best 131 = .ok (.goto 5, 3) := by decide +kernel
theorem dX9_best_134 : decode cX9_best 134 = .ok (.iload 4, 2) := by decide +kernel
theorem dX9_best_136 : decode cX9_best 136 = .ok (.istore 4, 2) := by decide +kernel
theorem dX9_best_138 : decode cX9_best 138 = .ok (.iinc 5 1, 3) := by decide +kernel
theorem dX9_best_141 : decode cX9_best 141 = .ok (.goto (-37), 3) := by decide +kernel
theorem dX9_best_144 : decode cX9_best 144 = .ok (.aload_n 0, 1) := by decide +kernel
theorem dX9_best_145 : decode cX9_best 145 = .ok (.getfield 19, 3) := by decide +kernel
theorem dX9_best_148 : decode cX9_best 148 = .ok (.iload 4, 2) := by decide +kernel
theorem dX9_best_150 : decode cX9_best 150 = .ok (.i2l, 1) := by decide +kernel
theorem dX9_best_151 : decode cX9_best 151 = .ok (.aload_n 0, 1) := by decide +kernel
theorem dX9_best_152 : decode cX9_best 152 = .ok (.getfield 71, 3) := by decide +kernel
theorem dX9_best_155 : decode cX9_best 155 = .ok (.getfield 310, 3) := by decide +kernel
theorem dX9_best_158 : decode cX9_best 158 = .ok (.iload_n 3, 1) := by decide +kernel
theorem dX9_best_159 : decode cX9_best 159 = .ok (.iaload, 1) := by decide +kernel
theorem dX9_best_160 : decode cX9_best 160 = .ok (.i2l, 1) := by decide +kernel
theorem dX9_best_161 : decode cX9_best 161 = .ok (.invokevirtual 227, 3) := by decide +kernel
theorem dX9_best_164 : decode cX9_best 164 = .ok (.iload_n 3, 1) := by decide +kernel
theorem dX9_best_165 : decode cX9_best 165 = .ok (.ireturn, 1) := by decide +kernel
theorem dX9_readOrder_0 : decode cX9_readOrder 0 = .ok (.iconst 0, 1) := by decide +kernel
theorem dX9_readOrder_1 : decode cX9_readOrder 1 = .ok (.istore_n 2, 1) := by decide +kernel
theorem dX9_readOrder_2 : decode cX9_readOrder 2 = .ok (.iconst 0, 1) := by decide +kernel
theorem dX9_readOrder_3 : decode cX9_readOrder 3 = .ok (.istore_n 3, 1) := by decide +kernel
theorem dX9_readOrder_4 : decode cX9_readOrder 4 = .ok (.iload_n 3, 1) := by decide +kernel
theorem dX9_readOrder_5 : decode cX9_readOrder 5 = .ok (.aload_n 0, 1) := by decide +kernel
theorem dX9_readOrder_6 : decode cX9_readOrder 6 = .ok (.getfield 26, 3) := by decide +kernel
theorem dX9_readOrder_9 : decode cX9_readOrder 9 = .ok (.getfield 282, 3) := by decide +kernel
theorem dX9_readOrder_12 : decode cX9_readOrder 12 = .ok (.if_icmp .ge 61, 3) := by decide +kernel
theorem dX9_readOrder_15 : decode cX9_readOrder 15 = .ok (.aload_n 0, 1) := by decide +kernel
theorem dX9_readOrder_16 : decode cX9_readOrder 16 = .ok (.getfield 10, 3) := by decide +kernel
theorem dX9_readOrder_19 : decode cX9_readOrder 19 = .ok (.iload_n 1, 1) := by decide +kernel
theorem dX9_readOrder_20 : decode cX9_readOrder 20 = .ok (.iload_n 3, 1) := by decide +kernel
theorem dX9_readOrder_21 : decode cX9_readOrder 21 = .ok (.iadd, 1) := by decide +kernel
theorem dX9_readOrder_22 : decode cX9_readOrder 22 = .ok (.invokevirtual 119, 3) := by decide +kernel
theorem dX9_readOrder_25 : decode cX9_readOrder 25 = .ok (.istore 4, 2) := by decide +kernel
theorem dX9_readOrder_27 : decode cX9_readOrder 27 = .ok (.aload_n 0, 1) := by decide +kernel
theorem dX9_readOrder_28 : decode cX9_readOrder 28 = .ok (.getfield 26, 3) := by decide +kernel
theorem dX9_readOrder_31 : decode cX9_readOrder 31 = .ok (.iload 4, 2) := by decide +kernel
theorem dX9_readOrder_33 : decode cX9_readOrder 33 = .ok (.invokevirtual 134, 3) := by decide +kernel
theorem dX9_readOrder_36 : decode cX9_readOrder 36 = .ok (.ifCond .eq 12, 3) := by decide +kernel
theorem dX9_readOrder_39 : decode cX9_readOrder 39 = .ok (.iload_n 2, 1) := by decide +kernel
theorem dX9_readOrder_40 : decode cX9_readOrder 40 = .ok (.iload 4, 2) := by decide +kernel
theorem dX9_readOrder_42 : decode cX9_readOrder 42 = .ok (.ishr, 1) := by decide +kernel
theorem dX9_readOrder_43 : decode cX9_readOrder 43 = .ok (.iconst 1, 1) := by decide +kernel
theorem dX9_readOrder_44 : decode cX9_readOrder 44 = .ok (.iand, 1) := by decide +kernel
theorem dX9_readOrder_45 : decode cX9_readOrder 45 = .ok (.ifCond .eq 7, 3) := by decide +kernel
theorem dX9_readOrder_48 : decode cX9_readOrder 48 = .ok (.iload_n 1, 1) := by decide +kernel
theorem dX9_readOrder_49 : decode cX9_readOrder 49 = .ok (.iload_n 3, 1) := by decide +kernel
theorem dX9_readOrder_50 : decode cX9_readOrder 50 = .ok (.iadd, 1) := by decide +kernel
theorem dX9_readOrder_51 : decode cX9_readOrder 51 = .ok (.ireturn, 1) := by decide +kernel
theorem dX9_readOrder_52 : decode cX9_readOrder 52 = .ok (.iload_n 2, 1) := by decide +kernel
theorem dX9_readOrder_53 : decode cX9_readOrder 53 = .ok (.iconst 1, 1) := by decide +kernel
theorem dX9_readOrder_54 : decode cX9_readOrder 54 = .ok (.iload 4, 2) := by decide +kernel
theorem dX9_readOrder_56 : decode cX9_readOrder 56 = .ok (.ishl, 1) := by decide +kernel
theorem dX9_readOrder_57 : decode cX9_readOrder 57 = .ok (.ior, 1) := by decide +kernel
theorem dX9_readOrder_58 : decode cX9_readOrder 58 = .ok (.istore_n 2, 1) := by decide +kernel
theorem dX9_readOrder_59 : decode cX9_readOrder 59 = .ok (.aload_n 0, 1) := by decide +kernel
theorem dX9_readOrder_60 : decode cX9_readOrder 60 = .ok (.getfield 82, 3) := by decide +kernel
theorem dX9_readOrder_63 : decode cX9_readOrder 63 = .ok (.iload_n 3, 1) := by decide +kernel
theorem dX9_readOrder_64 : decode cX9_readOrder 64 = .ok (.iload 4, 2) := by decide +kernel
theorem dX9_readOrder_66 : decode cX9_readOrder 66 = .ok (.iastore, 1) := by decide +kernel
theorem dX9_readOrder_67 : decode cX9_readOrder 67 = .ok (.iinc 3 1, 3) := by decide +kernel
theorem dX9_readOrder_70 : decode cX9_readOrder 70 = .ok (.goto (-66), 3) := by decide +kernel
theorem dX9_readOrder_73 : decode cX9_readOrder 73 = .ok (.iconst (-1), 1) := by decide +kernel
theorem dX9_readOrder_74 : decode cX9_readOrder 74 = .ok (.ireturn, 1) := by decide +kernel
theorem dX9_orderFault_0 : decode cX9_orderFault 0 = .ok (.aload_n 0, 1) := by decide +kernel
theorem dX9_orderFault_1 : decode cX9_orderFault 1 = .ok (.iconst 0, 1) := by decide +kernel
theorem dX9_orderFault_2 : decode cX9_orderFault 2 = .ok (.invokevirtual 329, 3) := by decide +kernel
theorem dX9_orderFault_5 : decode cX9_orderFault 5 = .ok (.istore_n 1, 1) := by decide +kernel
theorem dX9_orderFault_6 : decode cX9_orderFault 6 = .ok (.iload_n 1, 1) := by decide +kernel
theorem dX9_orderFault_7 : decode cX9_orderFault 7 = .ok (.ifCond .ge 28, 3) := by decide +kernel
theorem dX9_orderFault_10 : decode cX9_orderFault 10 = .ok (.aload_n 0, 1) := by decide +kernel
theorem dX9_orderFault_11 : decode cX9_orderFault 11 = .ok (.getfield 10, 3) := by decide +kernel
theorem dX9_orderFault_14 : decode cX9_orderFault 14 = .ok (.getfield 107, 3) := by decide +kernel
theorem dX9_orderFault_17 : decode cX9_orderFault 17 = .ok (.aload_n 0, 1) := by decide +kernel
theorem dX9_orderFault_18 : decode cX9_orderFault 18 = .ok (.getfield 26, 3) := by decide +kernel
theorem dX9_orderFault_21 : decode cX9_orderFault 21 = .ok (.getfield 282, 3) := by decide +kernel
theorem dX9_orderFault_24 : decode cX9_orderFault 24 = .ok (.if_icmp .le 11, 3) := by decide +kernel
theorem dX9_orderFault_27 : decode cX9_orderFault 27 = .ok (.aload_n 0, 1) := by decide +kernel
theorem dX9_orderFault_28 : decode cX9_orderFault 28 = .ok (.getfield 26, 3) := by decide +kernel
theorem dX9_orderFault_31 : decode cX9_orderFault 31 = .ok (.getfield 282, 3) := by decide +kernel
theorem dX9_orderFault_34 : decode cX9_orderFault 34 = .ok (.istore_n 1, 1) := by decide +kernel
theorem dX9_orderFault_35 : decode cX9_orderFault 35 = .ok (.aload_n 0, 1) := by decide +kernel
theorem dX9_orderFault_36 : decode cX9_orderFault 36 = .ok (.getfield 10, 3) := by decide +kernel
theorem dX9_orderFault_39 : decode cX9_orderFault 39 = .ok (.iconst 0, 1) := by decide +kernel
theorem dX9_orderFault_40 : decode cX9_orderFault 40 = .ok (.putfield 107, 3) := by decide +kernel
theorem dX9_orderFault_43 : decode cX9_orderFault 43 = .ok (.iload_n 1, 1) := by decide +kernel
theorem dX9_orderFault_44 : decode cX9_orderFault 44 = .ok (.ireturn, 1) := by decide +kernel
theorem dX9_relate_0 : decode cX9_relate 0 = .ok (.iconst 0, 1) := by decide +kernel
theorem dX9_relate_1 : decode cX9_relate 1 = .ok (.istore_n 2, 1) := by decide +kernel
theorem dX9_relate_2 : decode cX9_relate 2 = .ok (.iload_n 2, 1) := by decide +kernel
theorem dX9_relate_3 : decode cX9_relate 3 = .ok (.aload_n 1, 1) := by decide +kernel
theorem dX9_relate_4 : decode cX9_relate 4 = .ok (.getfield 282, 3) := by decide +kernel
theorem dX9_relate_7 : decode cX9_relate 7 = .ok (.if_icmp .ge 43, 3) := by decide +kernel
theorem dX9_relate_10 : decode cX9_relate 10 = .ok (.aload_n 0, 1) := by decide +kernel
theorem dX9_relate_11 : decode cX9_relate 11 = .ok (.getfield 86, 3) := by decide +kernel
theorem dX9_relate_14 : decode cX9_relate 14 = .ok (.iload_n 2, 1) := by decide +kernel
theorem dX9_relate_15 : decode cX9_relate 15 = .ok (.aload_n 1, 1) := by decide +kernel
theorem dX9_relate_16 : decode cX9_relate 16 = .ok (.aload_n 0, 1) := by decide +kernel
theorem dX9_relate_17 : decode cX9_relate 17 = .ok (.getfield 82, 3) := by decide +kernel
theorem dX9_relate_20 : decode cX9_relate 20 = .ok (.iload_n 2, 1) := by decide +kernel
theorem dX9_relate_21 : decode cX9_relate 21 = .ok (.iaload, 1) := by decide +kernel
theorem dX9_relate_22 : decode cX9_relate 22 = .ok (.invokevirtual 134, 3) := by decide +kernel
theorem dX9_relate_25 : decode cX9_relate 25 = .ok (.ifCond .eq 17, 3) := by decide +kernel
theorem dX9_relate_28 : decode cX9_relate 28 = .ok (.aload_n 1, 1) := by decide +kernel
theorem dX9_relate_29 : decode cX9_relate 29 = .ok (.getfield 151, 3) := by decide +kernel
theorem dX9_relate_32 : decode cX9_relate 32 = .ok (.aload_n 0, 1) := by decide +kernel
theorem dX9_relate_33 : decode cX9_relate 33 = .ok (.getfield 82, 3) := by decide +kernel
theorem dX9_relate_36 : decode cX9_relate 36 = .ok (.iload_n 2, 1) := by decide +kernel
theorem dX9_relate_37 : decode cX9_relate 37 = .ok (.iaload, 1) := by decide +kernel
theorem dX9_relate_38 : decode cX9_relate 38 = .ok (.iaload, 1) := by decide +kernel
theorem dX9_relate_39 : decode cX9_relate 39 = .ok (.goto 4, 3) := by decide +kernel
theorem dX9_relate_42 : decode cX9_relate 42 = .ok (.iload_n 2, 1) := by decide +kernel
theorem dX9_relate_43 : decode cX9_relate 43 = .ok (.iastore, 1) := by decide +kernel
theorem dX9_relate_44 : decode cX9_relate 44 = .ok (.iinc 2 1, 3) := by decide +kernel
theorem dX9_relate_47 : decode cX9_relate 47 = .ok (.goto (-45), 3) := by decide +kernel
theorem dX9_relate_50 : decode cX9_relate 50 = .ok (.return_, 1) := by decide +kernel
theorem dX9_soonest_0 : decode cX9_soonest 0 = .ok (.aload_n 0, 1) := by decide +kernel
theorem dX9_soonest_1 : decode cX9_soonest 1 = .ok (.invokevirtual 313, 3) := by decide +kernel
theorem dX9_soonest_4 : decode cX9_soonest 4 = .ok (.istore_n 1, 1) := by decide +kernel
theorem dX9_soonest_5 : decode cX9_soonest 5 = .ok (.iload_n 1, 1) := by decide +kernel
theorem dX9_soonest_6 : decode cX9_soonest 6 = .ok (.ifCond .lt 7, 3) := by decide +kernel
theorem dX9_soonest_9 : decode cX9_soonest 9 = .ok (.iconst (-1), 1) := by decide +kernel
theorem dX9_soonest_10 : decode cX9_soonest 10 = .ok (.iload_n 1, 1) := by decide +kernel
theorem dX9_soonest_11 : decode cX9_soonest 11 = .ok (.isub, 1) := by decide +kernel
theorem dX9_soonest_12 : decode cX9_soonest 12 = .ok (.ireturn, 1) := by decide +kernel
theorem dX9_soonest_13 : decode cX9_soonest 13 = .ok (.aload_n 0, 1) := by decide +kernel
theorem dX9_soonest_14 : decode cX9_soonest 14 = .ok (.aload_n 0, 1) := by decide +kernel
theorem dX9_soonest_15 : decode cX9_soonest 15 = .ok (.getfield 26, 3) := by decide +kernel
theorem dX9_soonest_18 : decode cX9_soonest 18 = .ok (.invokevirtual 316, 3) := by decide +kernel
theorem dX9_soonest_21 : decode cX9_soonest 21 = .ok (.aload_n 0, 1) := by decide +kernel
theorem dX9_soonest_22 : decode cX9_soonest 22 = .ok (.getfield 71, 3) := by decide +kernel
theorem dX9_soonest_25 : decode cX9_soonest 25 = .ok (.aload_n 0, 1) := by decide +kernel
theorem dX9_soonest_26 : decode cX9_soonest 26 = .ok (.getfield 26, 3) := by decide +kernel
theorem dX9_soonest_29 : decode cX9_soonest 29 = .ok (.getfield 282, 3) := by decide +kernel
theorem dX9_soonest_32 : decode cX9_soonest 32 = .ok (.invokevirtual 292, 3) := by decide +kernel
theorem dX9_soonest_35 : decode cX9_soonest 35 = .ok (.aload_n 0, 1) := by decide +kernel
theorem dX9_soonest_36 : decode cX9_soonest 36 = .ok (.getfield 71, 3) := by decide +kernel
theorem dX9_soonest_39 : decode cX9_soonest 39 = .ok (.aload_n 0, 1) := by decide +kernel
theorem dX9_soonest_40 : decode cX9_soonest 40 = .ok (.getfield 86, 3) := by decide +kernel
theorem dX9_soonest_43 : decode cX9_soonest 43 = .ok (.invokevirtual 319, 3) := by decide +kernel
theorem dX9_soonest_46 : decode cX9_soonest 46 = .ok (.ireturn, 1) := by decide +kernel
theorem dX9_tellFarthest_0 : decode cX9_tellFarthest 0 = .ok (.iconst 0, 1) := by decide +kernel
theorem dX9_tellFarthest_1 : decode cX9_tellFarthest 1 = .ok (.istore_n 1, 1) := by decide +kernel
theorem dX9_tellFarthest_2 : decode cX9_tellFarthest 2 = .ok (.iconst 0, 1) := by decide +kernel
theorem dX9_tellFarthest_3 : decode cX9_tellFarthest 3 = .ok (.istore_n 2, 1) := by decide +kernel
theorem dX9_tellFarthest_4 : decode cX9_tellFarthest 4 = .ok (.iconst 0, 1) := by decide +kernel
theorem dX9_tellFarthest_5 : decode cX9_tellFarthest 5 = .ok (.istore_n 3, 1) := by decide +kernel
theorem dX9_tellFarthest_6 : decode cX9_tellFarthest 6 = .ok (.iload_n 3, 1) := by decide +kernel
theorem dX9_tellFarthest_7 : decode cX9_tellFarthest 7 = .ok (.aload_n 0, 1) := by decide +kernel
theorem dX9_tellFarthest_8 : decode cX9_tellFarthest 8 = .ok (.getfield 26, 3) := by decide +kernel
theorem dX9_tellFarthest_11 : decode cX9_tellFarthest 11 = .ok (.getfield 282, 3) := by decide +kernel
theorem dX9_tellFarthest_14 : decode cX9_tellFarthest 14 = .ok (.if_icmp .ge 69, 3) := by decide +kernel
theorem dX9_tellFarthest_17 : decode cX9_tellFarthest 17 = .ok (.iconst 0, 1) := by decide +kernel
theorem dX9_tellFarthest_18 : decode cX9_tellFarthest 18 = .ok (.istore 4, 2) := by decide +kernel
theorem dX9_tellFarthest_20 : decode cX9_tellFarthest 20 = .ok (.iload 4, 2) := by decide +kernel
theorem dX9_tellFarthest_22 : decode cX9_tellFarthest 22 = .ok (.aload_n 0, 1) := by decide +kernel
theorem dX9_tellFarthest_23 : decode cX9_tellFarthest 23 = .ok (.getfield 26, 3) := by decide +kernel
theorem dX9_tellFarthest_26 : decode cX9_tellFarthest 26 = .ok (.getfield 282, 3) := by decide +kernel
theorem dX9_tellFarthest_29 : decode cX9_tellFarthest 29 = .ok (.if_icmp .ge 48, 3) := by decide +kernel
theorem dX9_tellFarthest_32 : decode cX9_tellFarthest 32 = .ok (.iload 4, 2) := by decide +kernel
theorem dX9_tellFarthest_34 : decode cX9_tellFarthest 34 = .ok (.aload_n 0, 1) := by decide +kernel
theorem dX9_tellFarthest_35 : decode cX9_tellFarthest 35 = .ok (.getfield 26, 3) := by decide +kernel
theorem dX9_tellFarthest_38 : decode cX9_tellFarthest 38 = .ok (.getfield 151, 3) := by decide +kernel
theorem dX9_tellFarthest_41 : decode cX9_tellFarthest 41 = .ok (.iload_n 3, 1) := by decide +kernel
theorem dX9_tellFarthest_42 : decode cX9_tellFarthest 42 = .ok (.iaload, 1) := by decide +kernel
theorem dX9_tellFarthest_43 : decode cX9_tellFarthest 43 = .ok (.isub, 1) := by decide +kernel
theorem dX9_tellFarthest_44 : decode cX9_tellFarthest 44 = .ok (.invokestatic 426, 3) := by decide +kernel
theorem dX9_tellFarthest_47 : decode cX9_tellFarthest 47 = .ok (.istore 5, 2) := by decide +kernel
theorem dX9_tellFarthest_49 : decode cX9_tellFarthest 49 = .ok (.aload_n 0, 1) := by decide +kernel
theorem dX9_tellFarthest_50 : decode cX9_tellFarthest 50 = .ok (.getfield 82, 3) := by decide +kernel
theorem dX9_tellFarthest_53 : decode cX9_tellFarthest 53 = .ok (.iload 4, 2) := by decide +kernel
theorem dX9_tellFarthest_55 : decode cX9_tellFarthest 55 = .ok (.iaload, 1) := by decide +kernel
theorem dX9_tellFarthest_56 : decode cX9_tellFarthest 56 = .ok (.iload_n 3, 1) := by decide +kernel
theorem dX9_tellFarthest_57 : decode cX9_tellFarthest 57 = .ok (.if_icmp .ne 14, 3) := by decide +kernel
theorem dX9_tellFarthest_60 : decode cX9_tellFarthest 60 = .ok (.iload 5, 2) := by decide +kernel
theorem dX9_tellFarthest_62 : decode cX9_tellFarthest 62 = .ok (.iload_n 2, 1) := by decide +kernel
theorem dX9_tellFarthest_63 : decode cX9_tellFarthest 63 = .ok (.if_icmp .le 8, 3) := by decide +kernel
theorem dX9_tellFarthest_66 : decode cX9_tellFarthest 66 = .ok (.iload_n 3, 1) := by decide +kernel
theorem dX9_tellFarthest_67 : decode cX9_tellFarthest 67 = .ok (.istore_n 1, 1) := by decide +kernel
theorem dX9_tellFarthest_68 : decode cX9_tellFarthest 68 = .ok (.iload 5, 2) := by decide +kernel
theorem dX9_tellFarthest_70 : decode cX9_tellFarthest 70 = .ok (.istore_n 2, 1) := by decide +kernel
theorem dX9_tellFarthest_71 : decode cX9_tellFarthest 71 = .ok (.iinc 4 1, 3) := by decide +kernel
theorem dX9_tellFarthest_74 : decode cX9_tellFarthest 74 = .ok (.goto (-54), 3) := by decide +kernel
theorem dX9_tellFarthest_77 : decode cX9_tellFarthest 77 = .ok (.iinc 3 1, 3) := by decide +kernel
theorem dX9_tellFarthest_80 : decode cX9_tellFarthest 80 = .ok (.goto (-74), 3) := by decide +kernel
theorem dX9_tellFarthest_83 : decode cX9_tellFarthest 83 = .ok (.aload_n 0, 1) := by decide +kernel
theorem dX9_tellFarthest_84 : decode cX9_tellFarthest 84 = .ok (.getfield 19, 3) := by decide +kernel
theorem dX9_tellFarthest_87 : decode cX9_tellFarthest 87 = .ok (.iload_n 1, 1) := by decide +kernel
theorem dX9_tellFarthest_88 : decode cX9_tellFarthest 88 = .ok (.i2l, 1) := by decide +kernel
theorem dX9_tellFarthest_89 : decode cX9_tellFarthest 89 = .ok (.iload_n 2, 1) := by decide +kernel
theorem dX9_tellFarthest_90 : decode cX9_tellFarthest 90 = .ok (.i2l, 1) := by decide +kernel
theorem dX9_tellFarthest_91 : decode cX9_tellFarthest 91 = .ok (.invokevirtual 227, 3) := by decide +kernel
theorem dX9_tellFarthest_94 : decode cX9_tellFarthest 94 = .ok (.return_, 1) := by decide +kernel
theorem dX9_crossed_0 : decode cX9_crossed 0 = .ok (.aload_n 0, 1) := by decide +kernel
theorem dX9_crossed_1 : decode cX9_crossed 1 = .ok (.invokevirtual 313, 3) := by decide +kernel
theorem dX9_crossed_4 : decode cX9_crossed 4 = .ok (.istore_n 1, 1) := by decide +kernel
theorem dX9_crossed_5 : decode cX9_crossed 5 = .ok (.iload_n 1, 1) := by decide +kernel
theorem dX9_crossed_6 : decode cX9_crossed 6 = .ok (.ifCond .lt 7, 3) := by decide +kernel
theorem dX9_crossed_9 : decode cX9_crossed 9 = .ok (.iconst (-1), 1) := by decide +kernel
theorem dX9_crossed_10 : decode cX9_crossed 10 = .ok (.iload_n 1, 1) := by decide +kernel
theorem dX9_crossed_11 : decode cX9_crossed 11 = .ok (.isub, 1) := by decide +kernel
theorem dX9_crossed_12 : decode cX9_crossed 12 = .ok (.ireturn, 1) := by decide +kernel
theorem dX9_crossed_13 : decode cX9_crossed 13 = .ok (.aload_n 0, 1) := by decide +kernel
theorem dX9_crossed_14 : decode cX9_crossed 14 = .ok (.aload_n 0, 1) := by decide +kernel
theorem dX9_crossed_15 : decode cX9_crossed 15 = .ok (.getfield 26, 3) := by decide +kernel
theorem dX9_crossed_18 : decode cX9_crossed 18 = .ok (.invokevirtual 316, 3) := by decide +kernel
theorem dX9_crossed_21 : decode cX9_crossed 21 = .ok (.iconst 0, 1) := by decide +kernel
theorem dX9_crossed_22 : decode cX9_crossed 22 = .ok (.istore_n 2, 1) := by decide +kernel
theorem dX9_crossed_23 : decode cX9_crossed 23 = .ok (.iconst 0, 1) := by decide +kernel
theorem dX9_crossed_24 : decode cX9_crossed 24 = .ok (.istore_n 3, 1) := by decide +kernel
theorem dX9_crossed_25 : decode cX9_crossed 25 = .ok (.iload_n 3, 1) := by decide +kernel
theorem dX9_crossed_26 : decode cX9_crossed 26 = .ok (.aload_n 0, 1) := by decide +kernel
theorem dX9_crossed_27 : decode cX9_crossed 27 = .ok (.getfield 26, 3) := by decide +kernel
theorem dX9_crossed_30 : decode cX9_crossed 30 = .ok (.getfield 282, 3) := by decide +kernel
theorem dX9_crossed_33 : decode cX9_crossed 33 = .ok (.if_icmp .ge 48, 3) := by decide +kernel
theorem dX9_crossed_36 : decode cX9_crossed 36 = .ok (.iconst 0, 1) := by decide +kernel
theorem dX9_crossed_37 : decode cX9_crossed 37 = .ok (.istore 4, 2) := by decide +kernel
theorem dX9_crossed_39 : decode cX9_crossed 39 = .ok (.iload 4, 2) := by decide +kernel
theorem dX9_crossed_41 : decode cX9_crossed 41 = .ok (.iload_n 3, 1) := by decide +kernel
theorem dX9_crossed_42 : decode cX9_crossed 42 = .ok (.if_icmp .ge 33, 3) := by decide +kernel
theorem dX9_crossed_45 : decode cX9_crossed 45 = .ok (.iload_n 2, 1) := by decide +kernel
theorem dX9_crossed_46 : decode cX9_crossed 46 = .ok (.aload_n 0, 1) := by decide +kernel
theorem dX9_crossed_47 : decode cX9_crossed 47 = .ok (.getfield 86, 3) := by decide +kernel
theorem dX9_crossed_50 : decode cX9_crossed 50 = .ok (.iload 4, 2) := by decide +kernel
theorem dX9_crossed_52 : decode cX9_crossed 52 = .ok (.iaload, 1) := by decide +kernel
theorem dX9_crossed_53 : decode cX9_crossed 53 = .ok (.aload_n 0, 1) := by decide +kernel
theorem dX9_crossed_54 : decode cX9_crossed 54 = .ok (.getfield 86, 3) := by decide +kernel
theorem dX9_crossed_57 : decode cX9_crossed 57 = .ok (.iload_n 3, 1) := by decide +kernel
theorem dX9_crossed_58 : decode cX9_crossed 58 = .ok (.iaload, 1) := by decide +kernel
theorem dX9_crossed_59 : decode cX9_crossed 59 = .ok (.if_icmp .le 7, 3) := by decide +kernel
theorem dX9_crossed_62 : decode cX9_crossed 62 = .ok (.iconst 1, 1) := by decide +kernel
theorem dX9_crossed_63 : decode cX9_crossed 63 = .ok (.goto 4, 3) := by decide +kernel
theorem dX9_crossed_66 : decode cX9_crossed 66 = .ok (.iconst 0, 1) := by decide +kernel
theorem dX9_crossed_67 : decode cX9_crossed 67 = .ok (.iadd, 1) := by decide +kernel
theorem dX9_crossed_68 : decode cX9_crossed 68 = .ok (.istore_n 2, 1) := by decide +kernel
theorem dX9_crossed_69 : decode cX9_crossed 69 = .ok (.iinc 4 1, 3) := by decide +kernel
theorem dX9_crossed_72 : decode cX9_crossed 72 = .ok (.goto (-33), 3) := by decide +kernel
theorem dX9_crossed_75 : decode cX9_crossed 75 = .ok (.iinc 3 1, 3) := by decide +kernel
theorem dX9_crossed_78 : decode cX9_crossed 78 = .ok (.goto (-53), 3) := by decide +kernel
theorem dX9_crossed_81 : decode cX9_crossed 81 = .ok (.aload_n 0, 1) := by decide +kernel
theorem dX9_crossed_82 : decode cX9_crossed 82 = .ok (.invokevirtual 323, 3) := by decide +kernel
theorem dX9_crossed_85 : decode cX9_crossed 85 = .ok (.iload_n 2, 1) := by decide +kernel
theorem dX9_crossed_86 : decode cX9_crossed 86 = .ok (.ireturn, 1) := by decide +kernel
theorem dX9_chartFault_0 : decode cX9_chartFault 0 = .ok (.iconst 0, 1) := by decide +kernel
theorem dX9_chartFault_1 : decode cX9_chartFault 1 = .ok (.istore_n 1, 1) := by decide +kernel
theorem dX9_chartFault_2 : decode cX9_chartFault 2 = .ok (.iconst 0, 1) := by decide +kernel
theorem dX9_chartFault_3 : decode cX9_chartFault 3 = .ok (.istore_n 2, 1) := by decide +kernel
theorem dX9_chartFault_4 : decode cX9_chartFault 4 = .ok (.iload_n 2, 1) := by decide +kernel
theorem dX9_chartFault_5 : decode cX9_chartFault 5 = .ok (.bipush 80, 2) := by decide +kernel
theorem dX9_chartFault_7 : decode cX9_chartFault 7 = .ok (.if_icmp .gt 63, 3) := by decide +kernel
theorem dX9_chartFault_10 : decode cX9_chartFault 10 = .ok (.aload_n 0, 1) := by decide +kernel
theorem dX9_chartFault_11 : decode cX9_chartFault 11 = .ok (.iload_n 1, 1) := by decide +kernel
theorem dX9_chartFault_12 : decode cX9_chartFault 12 = .ok (.invokevirtual 329, 3) := by decide +kernel
theorem dX9_chartFault_15 : decode cX9_chartFault 15 = .ok (.istore_n 3, 1) := by decide +kernel
theorem dX9_chartFault_16 : decode cX9_chartFault 16 = .ok (.iload_n 3, 1) := by decide +kernel
theorem dX9_chartFault_17 : decode cX9_chartFault 17 = .ok (.ifCond .lt 5, 3) := by decide +kernel
theorem dX9_chartFault_20 : decode cX9_chartFault 20 = .ok (.iload_n 3, 1) := by decide +kernel
theorem dX9_chartFault_21 : decode cX9_chartFault 21 = .ok (.ireturn, 1) := by decide +kernel
theorem dX9_chartFault_22 : decode cX9_chartFault 22 = .ok (.iload_n 1, 1) := by decide +kernel
theorem dX9_chartFault_23 : decode cX9_chartFault 23 = .ok (.aload_n 0, 1) := by decide +kernel
theorem dX9_chartFault_24 : decode cX9_chartFault 24 = .ok (.getfield 26, 3) := by decide +kernel
theorem dX9_chartFault_27 : decode cX9_chartFault 27 = .ok (.getfield 282, 3) := by decide +kernel
theorem dX9_chartFault_30 : decode cX9_chartFault 30 = .ok (.iadd, 1) := by decide +kernel
theorem dX9_chartFault_31 : decode cX9_chartFault 31 = .ok (.istore_n 1, 1) := by decide +kernel
theorem dX9_chartFault_32 : decode cX9_chartFault 32 = .ok (.iload_n 1, 1) := by decide +kernel
theorem dX9_chartFault_33 : decode cX9_chartFault 33 = .ok (.aload_n 0, 1) := by decide +kernel
theorem dX9_chartFault_34 : decode cX9_chartFault 34 = .ok (.getfield 10, 3) := by decide +kernel
theorem dX9_chartFault_37 : decode cX9_chartFault 37 = .ok (.getfield 107, 3) := by decide +kernel
theorem dX9_chartFault_40 : decode cX9_chartFault 40 = .ok (.if_icmp .lt 5, 3) := by decide +kernel
theorem dX9_chartFault_43 : decode cX9_chartFault 43 = .ok (.iconst (-1), 1) := by decide +kernel
theorem dX9_chartFault_44 : decode cX9_chartFault 44 = .ok (.ireturn, 1) := by decide +kernel
theorem dX9_chartFault_45 : decode cX9_chartFault 45 = .ok (.aload_n 0, 1) := by decide +kernel
theorem dX9_chartFault_46 : decode cX9_chartFault 46 = .ok (.getfield 10, 3) := by decide +kernel
theorem dX9_chartFault_49 : decode cX9_chartFault 49 = .ok (.getfield 218, 3) := by decide +kernel
theorem dX9_chartFault_52 : decode cX9_chartFault 52 = .ok (.iload_n 1, 1) := by decide +kernel
theorem dX9_chartFault_53 : decode cX9_chartFault 53 = .ok (.iaload, 1) := by decide +kernel
theorem dX9_chartFault_54 : decode cX9_chartFault 54 = .ok (.bipush 59, 2) := by decide +kernel
theorem dX9_chartFault_56 : decode cX9_chartFault 56 = .ok (.if_icmp .eq 5, 3) := by decide +kernel
theorem dX9_chartFault_59 : decode cX9_chartFault 59 = .ok (.iload_n 1, 1) := by decide +kernel
theorem dX9_chartFault_60 : decode cX9_chartFault 60 = .ok (.ireturn, 1) := by decide +kernel
theorem dX9_chartFault_61 : decode cX9_chartFault 61 = .ok (.iinc 1 1, 3) := by decide +kernel
theorem dX9_chartFault_64 : decode cX9_chartFault 64 = .ok (.iinc 2 1, 3) := by decide +kernel
theorem dX9_chartFault_67 : decode cX9_chartFault 67 = .ok (.goto (-63), 3) := by decide +kernel
theorem dX9_chartFault_70 : decode cX9_chartFault 70 = .ok (.iconst (-1), 1) := by decide +kernel
theorem dX9_chartFault_71 : decode cX9_chartFault 71 = .ok (.ireturn, 1) := by decide +kernel
theorem dX9_chart_0 : decode cX9_chart 0 = .ok (.aload_n 0, 1) := by decide +kernel
theorem dX9_chart_1 : decode cX9_chart 1 = .ok (.invokevirtual 326, 3) := by decide +kernel
theorem dX9_chart_4 : decode cX9_chart 4 = .ok (.istore_n 1, 1) := by decide +kernel
theorem dX9_chart_5 : decode cX9_chart 5 = .ok (.iload_n 1, 1) := by decide +kernel
theorem dX9_chart_6 : decode cX9_chart 6 = .ok (.ifCond .lt 15, 3) := by decide +kernel
theorem dX9_chart_9 : decode cX9_chart 9 = .ok (.aload_n 0, 1) := by decide +kernel
theorem dX9_chart_10 : decode cX9_chart 10 = .ok (.getfield 10, 3) := by decide +kernel
theorem dX9_chart_13 : decode cX9_chart 13 = .ok (.iconst 0, 1) := by decide +kernel
theorem dX9_chart_14 : decode cX9_chart 14 = .ok (.putfield 107, 3) := by decide +kernel
theorem dX9_chart_17 : decode cX9_chart 17 = .ok (.iconst (-1), 1) := by decide +kernel
theorem dX9_chart_18 : decode cX9_chart 18 = .ok (.iload_n 1, 1) := by decide +kernel
theorem dX9_chart_19 : decode cX9_chart 19 = .ok (.isub, 1) := by decide +kernel
theorem dX9_chart_20 : decode cX9_chart 20 = .ok (.ireturn, 1) := by decide +kernel
theorem dX9_chart_21 : decode cX9_chart 21 = .ok (.aload_n 0, 1) := by decide +kernel
theorem dX9_chart_22 : decode cX9_chart 22 = .ok (.getfield 33, 3) := by decide +kernel
theorem dX9_chart_25 : decode cX9_chart 25 = .ok (.aload_n 0, 1) := by decide +kernel
theorem dX9_chart_26 : decode cX9_chart 26 = .ok (.getfield 26, 3) := by decide +kernel
theorem dX9_chart_29 : decode cX9_chart 29 = .ok (.invokevirtual 190, 3) := by decide +kernel
theorem dX9_chart_32 : decode cX9_chart 32 = .ok (.iconst 0, 1) := by decide +kernel
theorem dX9_chart_33 : decode cX9_chart 33 = .ok (.istore_n 2, 1) := by decide +kernel
theorem dX9_chart_34 : decode cX9_chart 34 = .ok (.iconst 0, 1) := by decide +kernel
theorem dX9_chart_35 : decode cX9_chart 35 = .ok (.istore_n 3, 1) := by decide +kernel
theorem dX9_chart_36 : decode cX9_chart 36 = .ok (.iconst 1, 1) := by decide +kernel
theorem dX9_chart_37 : decode cX9_chart 37 = .ok (.istore 4, 2) := by decide +kernel
theorem dX9_chart_39 : decode cX9_chart 39 = .ok (.iconst 0, 1) := by decide +kernel
theorem dX9_chart_40 : decode cX9_chart 40 = .ok (.istore 5, 2) := by decide +kernel
theorem dX9_chart_42 : decode cX9_chart 42 = .ok (.iload 5, 2) := by decide +kernel
theorem dX9_chart_44 : decode cX9_chart 44 = .ok (.aload_n 0, 1) := by decide +kernel
theorem dX9_chart_45 : decode cX9_chart 45 = .ok (.getfield 10, 3) := by decide +kernel
theorem dX9_chart_48 : decode cX9_chart 48 = .ok (.getfield 107, 3) := by decide +kernel
theorem dX9_chart_51 : decode cX9_chart 51 = .ok (.if_icmp .gt 90, 3) := by decide +kernel
theorem dX9_chart_54 : decode cX9_chart 54 = .ok (.iload 4, 2) := by decide +kernel
theorem dX9_chart_56 : decode cX9_chart 56 = .ok (.ifCond .eq 85, 3) := by decide +kernel
theorem dX9_chart_59 : decode cX9_chart 59 = .ok (.aload_n 0, 1) := by decide +kernel
theorem dX9_chart_60 : decode cX9_chart 60 = .ok (.iload 5, 2) := by decide +kernel
theorem dX9_chart_62 : decode cX9_chart 62 = .ok (.invokevirtual 329, 3) := by decide +kernel
theorem dX9_chart_65 : decode cX9_chart 65 = .ok (.pop, 1) := by decide +kernel
theorem dX9_chart_66 : decode cX9_chart 66 = .ok (.aload_n 0, 1) := by decide +kernel
theorem dX9_chart_67 : decode cX9_chart 67 = .ok (.aload_n 0, 1) := by decide +kernel
theorem dX9_chart_68 : decode cX9_chart 68 = .ok (.getfield 33, 3) := by decide +kernel
theorem dX9_chart_71 : decode cX9_chart 71 = .ok (.invokevirtual 316, 3) := by decide +kernel
theorem dX9_chart_74 : decode cX9_chart 74 = .ok (.aload_n 0, 1) := by decide +kernel
theorem dX9_chart_75 : decode cX9_chart 75 = .ok (.getfield 86, 3) := by decide +kernel
theorem dX9_chart_78 : decode cX9_chart 78 = .ok (.aload_n 0, 1) := by decide +kernel
theorem dX9_chart_79 : decode cX9_chart 79 = .ok (.getfield 26, 3) := by decide +kernel
theorem dX9_chart_82 : decode cX9_chart 82 = .ok (.getfield 282, 3) := by decide +kernel
theorem dX9_chart_85 : decode cX9_chart 85 = .ok (.invokestatic 332, 3) := by decide +kernel
theorem dX9_chart_88 : decode cX9_chart 88 = .ok (.istore 4, 2) := by decide +kernel
theorem dX9_chart_90 : decode cX9_chart 90 = .ok (.iload 4, 2) := by decide +kernel
theorem dX9_chart_92 : decode cX9_chart 92 = .ok (.ifCond .eq 32, 3) := by decide +kernel
theorem dX9_chart_95 : decode cX9_chart 95 = .ok (.aload_n 0, 1) := by decide +kernel
theorem dX9_chart_96 : decode cX9_chart 96 = .ok (.getfield 86, 3) := by decide +kernel
theorem dX9_chart_99 : decode cX9_chart 99 = .ok (.aload_n 0, 1) := by decide +kernel
theorem dX9_chart_100 : decode cX9_chart 100 = .ok (.getfield 26, 3) := by decide +kernel
theorem dX9_chart_103 : decode cX9_chart 103 = .ok (.getfield 282, 3) := by decide +kernel
theorem dX9_chart_106 : decode cX9_chart 106 = .ok (.invokestatic 336, 3) := by decide +kernel
theorem dX9_chart_109 : decode cX9_chart 109 = .ok (.istore_n 3, 1) := by decide +kernel
theorem dX9_chart_110 : decode cX9_chart 110 = .ok (.iinc 2 1, 3) := by decide +kernel
theorem dX9_chart_113 : decode cX9_chart 113 = .ok (.aload_n 0, 1) := by decide +kernel
theorem dX9_chart_114 : decode cX9_chart 114 = .ok (.getfield 33, 3) := by decide +kernel
theorem dX9_chart_117 : decode cX9_chart 117 = .ok (.aload_n 0, 1) := by decide +kernel
theorem dX9_chart_118 : decode cX9_chart 118 = .ok (.getfield 82, 3) := by decide +kernel
theorem dX9_chart_121 : decode cX9_chart 121 = .ok (.invokevirtual 340, 3) := by decide +kernel
theorem dX9_chart_124 : decode cX9_chart 124 = .ok (.iload 5, 2) := by decide +kernel
theorem dX9_chart_126 : decode cX9_chart 126 = .ok (.aload_n 0, 1) := by decide +kernel
theorem dX9_chart_127 : decode cX9_chart 127 = .ok (.getfield 26, 3) := by decide +kernel
theorem dX9_chart_130 : decode cX9_chart 130 = .ok (.getfield 282, 3) := by decide +kernel
theorem dX9_chart_133 : decode cX9_chart 133 = .ok (.iconst 1, 1) := by decide +kernel
theorem dX9_chart_134 : decode cX9_chart 134 = .ok (.iadd, 1) := by decide +kernel
theorem dX9_chart_135 : decode cX9_chart 135 = .ok (.iadd, 1) := by decide +kernel
theorem dX9_chart_136 : decode cX9_chart 136 = .ok (.istore 5, 2) := by decide +kernel
theorem dX9_chart_138 : decode cX9_chart 138 = .ok (.goto (-96), 3) := by decide +kernel
theorem dX9_chart_141 : decode cX9_chart 141 = .ok (.aload_n 0, 1) := by decide +kernel
theorem dX9_chart_142 : decode cX9_chart 142 = .ok (.getfield 10, 3) := by decide +kernel
theorem dX9_chart_145 : decode cX9_chart 145 = .ok (.iconst 0, 1) := by decide +kernel
theorem dX9_chart_146 : decode cX9_chart 146 = .ok (.putfield 107, 3) := by decide +kernel
theorem dX9_chart_149 : decode cX9_chart 149 = .ok (.aload_n 0, 1) := by decide +kernel
theorem dX9_chart_150 : decode cX9_chart 150 = .ok (.getfield 19, 3) := by decide +kernel
theorem dX9_chart_153 : decode cX9_chart 153 = .ok (.iload 4, 2) := by decide +kernel
theorem dX9_chart_155 : decode cX9_chart 155 = .ok (.ifCond .eq 7, 3) := by decide +kernel
theorem dX9_chart_158 : decode cX9_chart 158 = .ok (.lconst 1, 1) := by decide +kernel
theorem dX9_chart_159 : decode cX9_chart 159 = .ok (.goto 4, 3) := by decide +kernel
theorem dX9_chart_162 : decode cX9_chart 162 = .ok (.lconst 0, 1) := by decide +kernel
theorem dX9_chart_163 : decode cX9_chart 163 = .ok (.iload_n 3, 1) := by decide +kernel
theorem dX9_chart_164 : decode cX9_chart 164 = .ok (.i2l, 1) := by decide +kernel
theorem dX9_chart_165 : decode cX9_chart 165 = .ok (.invokevirtual 227, 3) := by decide +kernel
theorem dX9_chart_168 : decode cX9_chart 168 = .ok (.iload_n 2, 1) := by decide +kernel
theorem dX9_chart_169 : decode cX9_chart 169 = .ok (.ireturn, 1) := by decide +kernel
theorem dX9_spurs_0 : decode cX9_spurs 0 = .ok (.aload_n 0, 1) := by decide +kernel
theorem dX9_spurs_1 : decode cX9_spurs 1 = .ok (.getfield 26, 3) := by decide +kernel
theorem dX9_spurs_4 : decode cX9_spurs 4 = .ok (.iload_n 1, 1) := by decide +kernel
theorem dX9_spurs_5 : decode cX9_spurs 5 = .ok (.invokevirtual 134, 3) := by decide +kernel
theorem dX9_spurs_8 : decode cX9_spurs 8 = .ok (.ifCond .ne 5, 3) := by decide +kernel
theorem dX9_spurs_11 : decode cX9_spurs 11 = .ok (.iconst (-1), 1) := by decide +kernel
theorem dX9_spurs_12 : decode cX9_spurs 12 = .ok (.ireturn, 1) := by decide +kernel
theorem dX9_spurs_13 : decode cX9_spurs 13 = .ok (.aload_n 0, 1) := by decide +kernel
theorem dX9_spurs_14 : decode cX9_spurs 14 = .ok (.getfield 33, 3) := by decide +kernel
theorem dX9_spurs_17 : decode cX9_spurs 17 = .ok (.aload_n 0, 1) := by decide +kernel
theorem dX9_spurs_18 : decode cX9_spurs 18 = .ok (.getfield 26, 3) := by decide +kernel
theorem dX9_spurs_21 : decode cX9_spurs 21 = .ok (.invokevirtual 190, 3) := by decide +kernel
theorem dX9_spurs_24 : decode cX9_spurs 24 = .ok (.iconst 1, 1) := by decide +kernel
theorem dX9_spurs_25 : decode cX9_spurs 25 = .ok (.istore_n 2, 1) := by decide +kernel
theorem dX9_spurs_26 : decode cX9_spurs 26 = .ok (.iload_n 2, 1) := by decide +kernel
theorem dX9_spurs_27 : decode cX9_spurs 27 = .ok (.bipush 9, 2) := by decide +kernel
theorem dX9_spurs_29 : decode cX9_spurs 29 = .ok (.if_icmp .gt 67, 3) := by decide +kernel
theorem dX9_spurs_32 : decode cX9_spurs 32 = .ok (.aload_n 0, 1) := by decide +kernel
theorem dX9_spurs_33 : decode cX9_spurs 33 = .ok (.getfield 33, 3) := by decide +kernel
theorem dX9_spurs_36 : decode cX9_spurs 36 = .ok (.getfield 145, 3) := by decide +kernel
theorem dX9_spurs_39 : decode cX9_spurs 39 = .ok (.iload_n 1, 1) := by decide +kernel
theorem dX9_spurs_40 : decode cX9_spurs 40 = .ok (.iload_n 2, 1) := by decide +kernel
theorem dX9_spurs_41 : decode cX9_spurs 41 = .ok (.iastore, 1) := by decide +kernel
theorem dX9_spurs_42 : decode cX9_spurs 42 = .ok (.aload_n 0, 1) := by decide +kernel
theorem dX9_spurs_43 : decode cX9_spurs 43 = .ok (.getfield 64, 3) := by decide +kernel
theorem dX9_spurs_46 : decode cX9_spurs 46 = .ok (.aload_n 0, 1) := by decide +kernel
theorem dX9_spurs_47 : decode cX9_spurs 47 = .ok (.getfield 33, 3) := by decide +kernel
theorem dX9_spurs_50 : decode cX9_spurs 50 = .ok (.aload_n 0, 1) := by decide +kernel
theorem dX9_spurs_51 : decode cX9_spurs 51 = .ok (.getfield 100, 3) := by decide +kernel
theorem dX9_spurs_54 : decode cX9_spurs 54 = .ok (.invokevirtual 157, 3) := by decide +kernel
theorem dX9_spurs_57 : decode cX9_spurs 57 = .ok (.aload_n 0, 1) := by decide +kernel
theorem dX9_spurs_58 : decode cX9_spurs 58 = .ok (.getfield 64, 3) := by decide +kernel
theorem dX9_spurs_61 : decode cX9_spurs 61 = .ok (.iload_n 1, 1) := by decide +kernel
theorem dX9_spurs_62 : decode cX9_spurs 62 = .ok (.invokevirtual 161, 3) := by decide +kernel
theorem dX9_spurs_65 : decode cX9_spurs 65 = .ok (.istore_n 3, 1) := by decide +kernel
theorem dX9_spurs_66 : decode cX9_spurs 66 = .ok (.iload_n 3, 1) := by decide +kernel
theorem dX9_spurs_67 : decode cX9_spurs 67 = .ok (.ifCond .lt 23, 3) := by decide +kernel
theorem dX9_spurs_70 : decode cX9_spurs 70 = .ok (.aload_n 0, 1) := by decide +kernel
theorem dX9_spurs_71 : decode cX9_spurs 71 = .ok (.getfield 19, 3) := by decide +kernel
theorem dX9_spurs_74 : decode cX9_spurs 74 = .ok (.iload_n 3, 1) := by decide +kernel
theorem dX9_spurs_75 : decode cX9_spurs 75 = .ok (.i2l, 1) := by decide +kernel
theorem dX9_spurs_76 : decode cX9_spurs 76 = .ok (.aload_n 0, 1) := by decide +kernel
theorem dX9_spurs_77 : decode cX9_spurs 77 = .ok (.getfield 64, 3) := by decide +kernel
theorem dX9_spurs_80 : decode cX9_spurs 80 = .ok (.iload_n 1, 1) := by decide +kernel
theorem dX9_spurs_81 : decode cX9_spurs 81 = .ok (.invokevirtual 344, 3) := by decide +kernel
theorem dX9_spurs_84 : decode cX9_spurs 84 = .ok (.i2l, 1) := by decide +kernel
theorem dX9_spurs_85 : decode cX9_spurs 85 = .ok (.invokevirtual 227, 3) := by decide +kernel
theorem dX9_spurs_88 : decode cX9_spurs 88 = .ok (.iload_n 2, 1) := by decide +kernel
theorem dX9_spurs_89 : decode cX9_spurs 89 = .ok (.ireturn, 1) := by decide +kernel
theorem dX9_spurs_90 : decode cX9_spurs 90 = .ok (.iinc 2 1, 3) := by decide +kernel
theorem dX9_spurs_93 : decode cX9_spurs 93 = .ok (.goto (-67), 3) := by decide +kernel
theorem dX9_spurs_96 : decode cX9_spurs 96 = .ok (.bipush (-2), 2) := by decide +kernel
theorem dX9_spurs_98 : decode cX9_spurs 98 = .ok (.ireturn, 1) := by decide +kernel
theorem dX9_calm_0 : decode cX9_calm 0 = .ok (.aload_n 0, 1) := by decide +kernel
theorem dX9_calm_1 : decode cX9_calm 1 = .ok (.getfield 33, 3) := by decide +kernel
theorem dX9_calm_4 : decode cX9_calm 4 = .ok (.aload_n 0, 1) := by decide +kernel
theorem dX9_calm_5 : decode cX9_calm 5 = .ok (.getfield 26, 3) := by decide +kernel
theorem dX9_calm_8 : decode cX9_calm 8 = .ok (.invokevirtual 190, 3) := by decide +kernel
theorem dX9_calm_11 : decode cX9_calm 11 = .ok (.bipush (-2), 2) := by decide +kernel
theorem dX9_calm_13 : decode cX9_calm 13 = .ok (.istore_n 1, 1) := by decide +kernel
theorem dX9_calm_14 : decode cX9_calm 14 = .ok (.iconst 0, 1) := by decide +kernel
theorem dX9_calm_15 : decode cX9_calm 15 = .ok (.istore_n 2, 1) := by decide +kernel
theorem dX9_calm_16 : decode cX9_calm 16 = .ok (.iconst 1, 1) := by decide +kernel
theorem dX9_calm_17 : decode cX9_calm 17 = .ok (.istore_n 3, 1) := by decide +kernel
theorem dX9_calm_18 : decode cX9_calm 18 = .ok (.iload_n 3, 1) := by decide +kernel
theorem dX9_calm_19 : decode cX9_calm 19 = .ok (.bipush 30, 2) := by decide +kernel
theorem dX9_calm_21 : decode cX9_calm 21 = .ok (.if_icmp .gt 55, 3) := by decide +kernel
theorem dX9_calm_24 : decode cX9_calm 24 = .ok (.aload_n 0, 1) := by decide +kernel
theorem dX9_calm_25 : decode cX9_calm 25 = .ok (.getfield 33, 3) := by decide +kernel
theorem dX9_calm_28 : decode cX9_calm 28 = .ok (.iload_n 3, 1) := by decide +kernel
theorem dX9_calm_29 : decode cX9_calm 29 = .ok (.putfield 347, 3) := by decide +kernel
theorem dX9_calm_32 : decode cX9_calm 32 = .ok (.aload_n 0, 1) := by decide +kernel
theorem dX9_calm_33 : decode cX9_calm 33 = .ok (.getfield 64, 3) := by decide +kernel
theorem dX9_calm_36 : decode cX9_calm 36 = .ok (.aload_n 0, 1) := by decide +kernel
theorem dX9_calm_37 : decode cX9_calm 37 = .ok (.getfield 33, 3) := by decide +kernel
theorem dX9_calm_40 : decode cX9_calm 40 = .ok (.aload_n 0, 1) := by decide +kernel
theorem dX9_calm_41 : decode cX9_calm 41 = .ok (.getfield 100, 3) := by decide +kernel
theorem dX9_calm_44 : decode cX9_calm 44 = .ok (.invokevirtual 157, 3) := by decide +kernel
theorem dX9_calm_47 : decode cX9_calm 47 = .ok (.aload_n 0, 1) := by decide +kernel
theorem dX9_calm_48 : decode cX9_calm 48 = .ok (.getfield 64, 3) := by decide +kernel
theorem dX9_calm_51 : decode cX9_calm 51 = .ok (.getfield 236, 3) := by decide +kernel
theorem dX9_calm_54 : decode cX9_calm 54 = .ok (.ifCond .ne 16, 3) := by decide +kernel
theorem dX9_calm_57 : decode cX9_calm 57 = .ok (.iload_n 2, 1) := by decide +kernel
theorem dX9_calm_58 : decode cX9_calm 58 = .ok (.ifCond .ne 7, 3) := by decide +kernel
theorem dX9_calm_61 : decode cX9_calm 61 = .ok (.iload_n 3, 1) := by decide +kernel
theorem dX9_calm_62 : decode cX9_calm 62 = .ok (.goto 4, 3) := by decide +kernel
theorem dX9_calm_65 : decode cX9_calm 65 = .ok (.iload_n 1, 1) := by decide +kernel
theorem dX9_calm_66 : decode cX9_calm 66 = .ok (.istore_n 1, 1) := by decide +kernel
theorem dX9_calm_67 : decode cX9_calm 67 = .ok (.iinc 2 1, 3) := by decide +kernel
theorem dX9_calm_70 : decode cX9_calm 70 = .ok (.iinc 3 1, 3) := by decide +kernel
theorem dX9_calm_73 : decode cX9_calm 73 = .ok (.goto (-55), 3) := by decide +kernel
theorem dX9_calm_76 : decode cX9_calm 76 = .ok (.iload_n 2, 1) := by decide +kernel
theorem dX9_calm_77 : decode cX9_calm 77 = .ok (.ifCond .le 12, 3) := by decide +kernel
theorem dX9_calm_80 : decode cX9_calm 80 = .ok (.aload_n 0, 1) := by decide +kernel
theorem dX9_calm_81 : decode cX9_calm 81 = .ok (.getfield 19, 3) := by decide +kernel
theorem dX9_calm_84 : decode cX9_calm 84 = .ok (.iload_n 2, 1) := by decide +kernel
theorem dX9_calm_85 : decode cX9_calm 85 = .ok (.i2l, 1) := by decide +kernel
theorem dX9_calm_86 : decode cX9_calm 86 = .ok (.invokevirtual 186, 3) := by decide +kernel
theorem dX9_calm_89 : decode cX9_calm 89 = .ok (.iload_n 1, 1) := by decide +kernel
theorem dX9_calm_90 : decode cX9_calm 90 = .ok (.ireturn, 1) := by decide +kernel
theorem dX9_differ_0 : decode cX9_differ 0 = .ok (.iload_n 1, 1) := by decide +kernel
theorem dX9_differ_1 : decode cX9_differ 1 = .ok (.iconst 1, 1) := by decide +kernel
theorem dX9_differ_2 : decode cX9_differ 2 = .ok (.if_icmp .lt 20, 3) := by decide +kernel
theorem dX9_differ_5 : decode cX9_differ 5 = .ok (.iload_n 1, 1) := by decide +kernel
theorem dX9_differ_6 : decode cX9_differ 6 = .ok (.bipush 30, 2) := by decide +kernel
theorem dX9_differ_8 : decode cX9_differ 8 = .ok (.if_icmp .gt 14, 3) := by decide +kernel
theorem dX9_differ_11 : decode cX9_differ 11 = .ok (.iload_n 2, 1) := by decide +kernel
theorem dX9_differ_12 : decode cX9_differ 12 = .ok (.iconst 1, 1) := by decide +kernel
theorem dX9_differ_13 : decode cX9_differ 13 = .ok (.if_icmp .lt 9, 3) := by decide +kernel
theorem dX9_differ_16 : decode cX9_differ 16 = .ok (.iload_n 2, 1) := by decide +kernel
theorem dX9_differ_17 : decode cX9_differ 17 = .ok (.bipush 30, 2) := by decide +kernel
theorem dX9_differ_19 : decode cX9_differ 19 = .ok (.if_icmp .le 5, 3) := by decide +kernel
theorem dX9_differ_22 : decode cX9_differ 22 = .ok (.iconst (-1), 1) := by decide +kernel
theorem dX9_differ_23 : decode cX9_differ 23 = .ok (.ireturn, 1) := by decide +kernel
theorem dX9_differ_24 : decode cX9_differ 24 = .ok (.aload_n 0, 1) := by decide +kernel
theorem dX9_differ_25 : decode cX9_differ 25 = .ok (.getfield 33, 3) := by decide +kernel
theorem dX9_differ_28 : decode cX9_differ 28 = .ok (.aload_n 0, 1) := by decide +kernel
theorem dX9_differ_29 : decode cX9_differ 29 = .ok (.getfield 26, 3) := by decide +kernel
theorem dX9_differ_32 : decode cX9_differ 32 = .ok (.invokevirtual 190, 3) := by decide +kernel
theorem dX9_differ_35 : decode cX9_differ 35 = .ok (.aload_n 0, 1) := by decide +kernel
theorem dX9_differ_36 : decode cX9_differ 36 = .ok (.getfield 33, 3) := by decide +kernel
theorem dX9_differ_39 : decode cX9_differ 39 = .ok (.iload_n 1, 1) := by decide +kernel
theorem dX9_differ_40 : decode cX9_differ 40 = .ok (.putfield 347, 3) := by decide +kernel
theorem dX9_differ_43 : decode cX9_differ 43 = .ok (.aload_n 0, 1) := by decide +kernel
theorem dX9_differ_44 : decode cX9_differ 44 = .ok (.getfield 36, 3) := by decide +kernel
theorem dX9_differ_47 : decode cX9_differ 47 = .ok (.aload_n 0, 1) := by decide +kernel
theorem dX9_differ_48 : decode cX9_differ 48 = .ok (.getfield 26, 3) := by decide +kernel
theorem dX9_differ_51 : decode cX9_differ 51 = .ok (.invokevirtual 190, 3) := by decide +kernel
theorem dX9_differ_54 : decode cX9_differ 54 = .ok (.aload_n 0, 1) := by decide +kernel
theorem dX9_differ_55 : decode cX9_differ 55 = .ok (.getfield 36, 3) := by decide +kernel
theorem dX9_differ_58 : decode cX9_differ 58 = .ok (.iload_n 2, 1) := by decide +kernel
theorem dX9_differ_59 : decode cX9_differ 59 = .ok (.putfield 347, 3) := by decide +kernel
theorem dX9_differ_62 : decode cX9_differ 62 = .ok (.iconst 1, 1) := by decide +kernel
theorem dX9_differ_63 : decode cX9_differ 63 = .ok (.istore_n 3, 1) := by decide +kernel
theorem dX9_differ_64 : decode cX9_differ 64 = .ok (.iload_n 3, 1) := by decide +kernel
theorem dX9_differ_65 : decode cX9_differ 65 = .ok (.bipush 60, 2) := by decide +kernel
theorem dX9_differ_67 : decode cX9_differ 67 = .ok (.if_icmp .gt 127, 3) := by decide +kernel
theorem dX9_differ_70 : decode cX9_differ 70 = .ok (.iload_n 1, 1) := by decide +kernel
theorem dX9_differ_71 : decode cX9_differ 71 = .ok (.iload_n 2, 1) := by decide +kernel
theorem dX9_differ_72 : decode cX9_differ 72 = .ok (.if_icmp .eq 122, 3) := by decide +kernel
theorem dX9_differ_75 : decode cX9_differ 75 = .ok (.aload_n 0, 1) := by decide +kernel
theorem dX9_differ_76 : decode cX9_differ 76 = .ok (.aload_n 0, 1) := by decide +kernel
theorem dX9_differ_77 : decode cX9_differ 77 = .ok (.getfield 33, 3) := by decide +kernel
theorem dX9_differ_80 : decode cX9_differ 80 = .ok (.aload_n 0, 1) := by decide +kernel
theorem dX9_differ_81 : decode cX9_differ 81 = .ok (.getfield 100, 3) := by decide +kernel
theorem dX9_differ_84 : decode cX9_differ 84 = .ok (.iconst 1, 1) := by decide +kernel
theorem dX9_differ_85 : decode cX9_differ 85 = .ok (.invokevirtual 182, 3) := by decide +kernel
theorem dX9_differ_88 : decode cX9_differ 88 = .ok (.pop, 1) := by decide +kernel
theorem dX9_differ_89 : decode cX9_differ 89 = .ok (.aload_n 0, 1) := by decide +kernel
theorem dX9_differ_90 : decode cX9_differ 90 = .ok (.aload_n 0, 1) := by decide +kernel
theorem dX9_differ_91 : decode cX9_differ 91 = .ok (.getfield 36, 3) := by decide +kernel
theorem dX9_differ_94 : decode cX9_differ 94 = .ok (.aload_n 0, 1) := by decide +kernel
theorem dX9_differ_95 : decode cX9_differ 95 = .ok (.getfield 100, 3) := by decide +kernel
theorem dX9_differ_98 : decode cX9_differ 98 = .ok (.iconst 1, 1) := by decide +kernel
theorem dX9_differ_99 : decode cX9_differ 99 = .ok (.invokevirtual 182, 3) := by decide +kernel
theorem dX9_differ_102 : decode cX9_differ 102 = .ok (.pop, 1) := by decide +kernel
theorem dX9_differ_103 : decode cX9_differ 103 = .ok (.iconst 0, 1) := by decide +kernel
theorem dX9_differ_104 : decode cX9_differ 104 = .ok (.istore 4, 2) := by decide +kernel
theorem dX9_differ_106 : decode cX9_differ 106 = .ok (.iload 4, 2) := by decide +kernel
theorem dX9_differ_108 : decode cX9_differ 108 = .ok (.aload_n 0, 1) := by decide +kernel
theorem dX9_differ_109 : decode cX9_differ 109 = .ok (.getfield 26, 3) := by decide +kernel
theorem dX9_differ_112 : decode cX9_differ 112 = .ok (.getfield 282, 3) := by decide +kernel
theorem dX9_differ_115 : decode cX9_differ 115 = .ok (.if_icmp .ge 73, 3) := by decide +kernel
theorem dX9_differ_118 : decode cX9_differ 118 = .ok (.aload_n 0, 1) := by decide +kernel
theorem dX9_differ_119 : decode cX9_differ 119 = .ok (.getfield 33, 3) := by decide +kernel
theorem dX9_differ_122 : decode cX9_differ 122 = .ok (.getfield 350, 3) := by decide +kernel
theorem dX9_differ_125 : decode cX9_differ 125 = .ok (.iload 4, 2) := by decide +kernel
theorem dX9_differ_127 : decode cX9_differ 127 = .ok (.iaload, 1) := by decide +kernel
theorem dX9_differ_128 : decode cX9_differ 128 = .ok (.aload_n 0, 1) := by decide +kernel
theorem dX9_differ_129 : decode cX9_differ 129 = .ok (.getfield 36, 3) := by decide +kernel
theorem dX9_differ_132 : decode cX9_differ 132 = .ok (.getfield 350, 3) := by decide +kernel
theorem dX9_differ_135 : decode cX9_differ 135 = .ok (.iload 4, 2) := by decide +kernel
theorem dX9_differ_137 : decode cX9_differ 137 = .ok (.iaload, 1) := by decide +kernel
theorem dX9_differ_138 : decode cX9_differ 138 = .ok (.if_icmp .eq 44, 3) := by decide +kernel
theorem dX9_differ_141 : decode cX9_differ 141 = .ok (.aload_n 0, 1) := by decide +kernel
theorem dX9_differ_142 : decode cX9_differ 142 = .ok (.getfield 19, 3) := by decide +kernel
theorem dX9_differ_145 : decode cX9_differ 145 = .ok (.iload 4, 2) := by decide +kernel
theorem dX9_differ_147 : decode cX9_differ 147 = .ok (.i2l, 1) := by decide +kernel
theorem dX9_differ_148 : decode cX9_differ 148 = .ok (.aload_n 0, 1) := by decide +kernel
theorem dX9_differ_149 : decode cX9_differ 149 = .ok (.getfield 33, 3) := by decide +kernel
theorem dX9_differ_152 : decode cX9_differ 152 = .ok (.getfield 350, 3) := by decide +kernel
theorem dX9_differ_155 : decode cX9_differ 155 = .ok (.iload 4, 2) := by decide +kernel
theorem dX9_differ_157 : decode cX9_differ 157 = .ok (.iaload, 1) := by decide +kernel
theorem dX9_differ_158 : decode cX9_differ 158 = .ok (.i2l, 1) := by decide +kernel
theorem dX9_differ_159 : decode cX9_differ 159 = .ok (.invokevirtual 227, 3) := by decide +kernel
theorem dX9_differ_162 : decode cX9_differ 162 = .ok (.aload_n 0, 1) := by decide +kernel
theorem dX9_differ_163 : decode cX9_differ 163 = .ok (.getfield 19, 3) := by decide +kernel
theorem dX9_differ_166 : decode cX9_differ 166 = .ok (.aload_n 0, 1) := by decide +kernel
theorem dX9_differ_167 : decode cX9_differ 167 = .ok (.getfield 36, 3) := by decide +kernel
theorem dX9_differ_170 : decode cX9_differ 170 = .ok (.getfield 350, 3) := by decide +kernel
theorem dX9_differ_173 : decode cX9_differ 173 = .ok (.iload 4, 2) := by decide +kernel
theorem dX9_differ_175 : decode cX9_differ 175 = .ok (.iaload, 1) := by decide +kernel
theorem dX9_differ_176 : decode cX9_differ 176 = .ok (.i2l, 1) := by decide +kernel
theorem dX9_differ_177 : decode cX9_differ 177 = .ok (.invokevirtual 242, 3) := by decide +kernel
theorem dX9_differ_180 : decode cX9_differ 180 = .ok (.iload_n 3, 1) := by decide +kernel
theorem dX9_differ_181 : decode cX9_differ 181 = .ok (.ireturn, 1) := by decide +kernel
theorem dX9_differ_182 : decode cX9_differ 182 = .ok (.iinc 4 1, 3) := by decide +kernel
theorem dX9_differ_185 : decode cX9_differ 185 = .ok (.goto (-79), 3) := by decide +kernel
theorem dX9_differ_188 : decode cX9_differ 188 = .ok (.iinc 3 1, 3) := by decide +kernel
theorem dX9_differ_191 : decode cX9_differ 191 = .ok (.goto (-127), 3) := by decide +kernel
theorem dX9_differ_194 : decode cX9_differ 194 = .ok (.bipush (-2), 2) := by decide +kernel
theorem dX9_differ_196 : decode cX9_differ 196 = .ok (.ireturn, 1) := by decide +kernel
theorem dX9_placeIfRested_0 : decode cX9_placeIfRested 0 = .ok (.aload_n 0, 1) := by decide +kernel
theorem dX9_placeIfRested_1 : decode cX9_placeIfRested 1 = .ok (.getfield 33, 3) := by decide +kernel
theorem dX9_placeIfRested_4 : decode cX9_placeIfRested 4 = .ok (.aload_n 0, 1) := by decide +kernel
theorem dX9_placeIfRested_5 : decode cX9_placeIfRested 5 = .ok (.getfield 26, 3) := by decide +kernel
theorem dX9_placeIfRested_8 : decode cX9_placeIfRested 8 = .ok (.invokevirtual 190, 3) := by decide +kernel
theorem dX9_placeIfRested_11 : decode cX9_placeIfRested 11 = .ok (.aload_n 0, 1) := by decide +kernel
theorem dX9_placeIfRested_12 : decode cX9_placeIfRested 12 = .ok (.getfield 33, 3) := by decide +kernel
theorem dX9_placeIfRested_15 : decode cX9_placeIfRested 15 = .ok (.iload_n 1, 1) := by decide +kernel
theorem dX9_placeIfRested_16 : decode cX9_placeIfRested 16 = .ok (.invokevirtual 199, 3) := by decide +kernel
theorem dX9_placeIfRested_19 : decode cX9_placeIfRested 19 = .ok (.pop, 1) := by decide +kernel
theorem dX9_placeIfRested_20 : decode cX9_placeIfRested 20 = .ok (.aload_n 0, 1) := by decide +kernel
theorem dX9_placeIfRested_21 : decode cX9_placeIfRested 21 = .ok (.aload_n 0, 1) := by decide +kernel
theorem dX9_placeIfRested_22 : decode cX9_placeIfRested 22 = .ok (.getfield 33, 3) := by decide +kernel
theorem dX9_placeIfRested_25 : decode cX9_placeIfRested 25 = .ok (.aload_n 0, 1) := by decide +kernel
theorem dX9_placeIfRested_26 : decode cX9_placeIfRested 26 = .ok (.getfield 100, 3) := by decide +kernel
theorem dX9_placeIfRested_29 : decode cX9_placeIfRested 29 = .ok (.iload_n 3, 1) := by decide +kernel
theorem dX9_placeIfRested_30 : decode cX9_placeIfRested 30 = .ok (.invokevirtual 182, 3) := by decide +kernel
theorem dX9_placeIfRested_33 : decode cX9_placeIfRested 33 = .ok (.pop, 1) := by decide +kernel
theorem dX9_placeIfRested_34 : decode cX9_placeIfRested 34 = .ok (.aload_n 0, 1) := by decide +kernel
theorem dX9_placeIfRested_35 : decode cX9_placeIfRested 35 = .ok (.getfield 33, 3) := by decide +kernel
theorem dX9_placeIfRested_38 : decode cX9_placeIfRested 38 = .ok (.getfield 151, 3) := by decide +kernel
theorem dX9_placeIfRested_41 : decode cX9_placeIfRested 41 = .ok (.iload_n 2, 1) := by decide +kernel
theorem dX9_placeIfRested_42 : decode cX9_placeIfRested 42 = .ok (.iaload, 1) := by decide +kernel
theorem dX9_placeIfRested_43 : decode cX9_placeIfRested 43 = .ok (.ireturn, 1) := by decide +kernel
theorem dX9_helps_0 : decode cX9_helps 0 = .ok (.aload_n 0, 1) := by decide +kernel
theorem dX9_helps_1 : decode cX9_helps 1 = .ok (.getfield 26, 3) := by decide +kernel
theorem dX9_helps_4 : decode cX9_helps 4 = .ok (.iload_n 1, 1) := by decide +kernel
theorem dX9_helps_5 : decode cX9_helps 5 = .ok (.invokevirtual 134, 3) := by decide +kernel
theorem dX9_helps_8 : decode cX9_helps 8 = .ok (.ifCond .eq 14, 3) := by decide +kernel
theorem dX9_helps_11 : decode cX9_helps 11 = .ok (.iload_n 2, 1) := by decide +kernel
theorem dX9_helps_12 : decode cX9_helps 12 = .ok (.iconst 1, 1) := by decide +kernel
theorem dX9_helps_13 : decode cX9_helps 13 = .ok (.if_icmp .lt 9, 3) := by decide +kernel
theorem dX9_helps_16 : decode cX9_helps 16 = .ok (.iload_n 2, 1) := by decide +kernel
theorem dX9_helps_17 : decode cX9_helps 17 = .ok (.bipush 30, 2) := by decide +kernel
theorem dX9_helps_19 : decode cX9_helps 19 = .ok (.if_icmp .le 5, 3) := by decide +kernel
theorem dX9_helps_22 : decode cX9_helps 22 = .ok (.iconst (-1), 1) := by decide +kernel
theorem dX9_helps_23 : decode cX9_helps 23 = .ok (.ireturn, 1) := by decide +kernel
theorem dX9_helps_24 : decode cX9_helps 24 = .ok (.aload_n 0, 1) := by decide +kernel
theorem dX9_helps_25 : decode cX9_helps 25 = .ok (.iconst (-1), 1) := by decide +kernel
theorem dX9_helps_26 : decode cX9_helps 26 = .ok (.iload_n 1, 1) := by decide +kernel
theorem dX9_helps_27 : decode cX9_helps 27 = .ok (.iload_n 2, 1) := by decide +kernel
theorem dX9_helps_28 : decode cX9_helps 28 = .ok (.invokevirtual 351, 3) := by decide +kernel
theorem dX9_helps_31 : decode cX9_helps 31 = .ok (.istore_n 3, 1) := by decide +kernel
theorem dX9_helps_32 : decode cX9_helps 32 = .ok (.bipush 6, 2) := by decide +kernel
theorem dX9_helps_34 : decode cX9_helps 34 = .ok (.istore 4, 2) := by decide +kernel
theorem dX9_helps_36 : decode cX9_helps 36 = .ok (.iconst (-1), 1) := by decide +kernel
theorem dX9_helps_37 : decode cX9_helps 37 = .ok (.istore 5, 2) := by decide +kernel
theorem dX9_helps_39 : decode cX9_helps 39 = .ok (.iconst 0, 1) := by decide +kernel
theorem dX9_helps_40 : decode cX9_helps 40 = .ok (.istore 6, 2) := by decide +kernel
theorem dX9_helps_42 : decode cX9_helps 42 = .ok (.iload 6, 2) := by decide +kernel
theorem dX9_helps_44 : decode cX9_helps 44 = .ok (.aload_n 0, 1) := by decide +kernel
theorem dX9_helps_45 : decode cX9_helps 45 = .ok (.getfield 26, 3) := by decide +kernel
theorem dX9_helps_48 : decode cX9_helps 48 = .ok (.getfield 282, 3) := by decide +kernel
theorem dX9_helps_51 : decode cX9_helps 51 = .ok (.if_icmp .ge 51, 3) := by decide +kernel
theorem dX9_helps_54 : decode cX9_helps 54 = .ok (.aload_n 0, 1) := by decide +kernel
theorem dX9_helps_55 : decode cX9_helps 55 = .ok (.getfield 26, 3) := by decide +kernel
theorem dX9_helps_58 : decode cX9_helps 58 = .ok (.getfield 148, 3) := by decide +kernel
theorem dX9_helps_61 : decode cX9_helps 61 = .ok (.iload 6, 2) := by decide +kernel
theorem dX9_helps_63 : decode cX9_helps 63 = .ok (.iaload, 1) := by decide +kernel
theorem dX9_helps_64 : decode cX9_helps 64 = .ok (.ifCond .ne 7, 3) := by decide +kernel
theorem dX9_helps_67 : decode cX9_helps 67 = .ok (.iload_n 3, 1) := by decide +kernel
theorem dX9_helps_68 : decode cX9_helps 68 = .ok (.goto 11, 3) := by decide +kernel
theorem dX9_helps_71 : decode cX9_helps 71 = .ok (.aload_n 0, 1) := by decide +kernel
theorem dX9_helps_72 : decode cX9_helps 72 = .ok (.iload 6, 2) := by decide +kernel
theorem dX9_helps_74 : decode cX9_helps 74 = .ok (.iload_n 1, 1) := by decide +kernel
theorem dX9_helps_75 : decode cX9_helps 75 = .ok (.iload_n 2, 1) := by decide +kernel
theorem dX9_helps_76 : decode cX9_helps 76 = .ok (.invokevirtual 351, 3) := by decide +kernel
theorem dX9_helps_79 : decode cX9_helps 79 = .ok (.istore 7, 2) := by decide +kernel
theorem dX9_helps_81 : decode cX9_helps 81 = .ok (.iload 7, 2) := by decide +kernel
theorem dX9_helps_83 : decode cX9_helps 83 = .ok (.iload 4, 2) := by decide +kernel
theorem dX9_helps_85 : decode cX9_helps 85 = .ok (.if_icmp .ge 11, 3) := by decide +kernel
theorem dX9_helps_88 : decode cX9_helps 88 = .ok (.iload 7, 2) := by decide +kernel
theorem dX9_helps_90 : decode cX9_helps 90 = .ok (.istore 4, 2) := by decide +kernel
theorem dX9_helps_92 : decode cX9_helps 92 = .ok (.iload 6, 2) := by decide +kernel
theorem dX9_helps_94 : decode cX9_helps 94 = .ok (.istore 5, 2) := by decide +kernel
theorem dX9_helps_96 : decode cX9_helps 96 = .ok (.iinc 6 1, 3) := by decide +kernel
theorem dX9_helps_99 : decode cX9_helps 99 = .ok (.goto (-57), 3) := by decide +kernel
theorem dX9_helps_102 : decode cX9_helps 102 = .ok (.aload_n 0, 1) := by decide +kernel
theorem dX9_helps_103 : decode cX9_helps 103 = .ok (.getfield 19, 3) := by decide +kernel
theorem dX9_helps_106 : decode cX9_helps 106 = .ok (.iload 4, 2) := by decide +kernel
theorem dX9_helps_108 : decode cX9_helps 108 = .ok (.i2l, 1) := by decide +kernel
theorem dX9_helps_109 : decode cX9_helps 109 = .ok (.iload_n 3, 1) := by decide +kernel
theorem dX9_helps_110 : decode cX9_helps 110 = .ok (.i2l, 1) := by decide +kernel
theorem dX9_helps_111 : decode cX9_helps 111 = .ok (.invokevirtual 227, 3) := by decide +kernel
theorem dX9_helps_114 : decode cX9_helps 114 = .ok (.iload 5, 2) := by decide +kernel
theorem dX9_helps_116 : decode cX9_helps 116 = .ok (.ireturn, 1) := by decide +kernel
theorem dX9_mayBeHeard_0 : decode cX9_mayBeHeard 0 = .ok (.iload_n 0, 1) := by decide +kernel
theorem dX9_mayBeHeard_1 : decode cX9_mayBeHeard 1 = .ok (.ifCond .lt 33, 3) := by decide +kernel
theorem dX9_mayBeHeard_4 : decode cX9_mayBeHeard 4 = .ok (.iload_n 0, 1) := by decide +kernel
theorem dX9_mayBeHeard_5 : decode cX9_mayBeHeard 5 = .ok (.getstatic 369, 3) := by decide +kernel
theorem dX9_mayBeHeard_8 : decode cX9_mayBeHeard 8 = .ok (.arraylength, 1) := by decide +kernel
theorem dX9_mayBeHeard_9 : decode cX9_mayBeHeard 9 = .ok (.if_icmp .ge 25, 3) := by decide +kernel
theorem dX9_mayBeHeard_12 : decode cX9_mayBeHeard 12 = .ok (.iload_n 1, 1) := by decide +kernel
theorem dX9_mayBeHeard_13 : decode cX9_mayBeHeard 13 = .ok (.getstatic 369, 3) := by decide +kernel
theorem dX9_mayBeHeard_16 : decode cX9_mayBeHeard 16 = .ok (.iload_n 0, 1) := by decide +kernel
theorem dX9_mayBeHeard_17 : decode cX9_mayBeHeard 17 = .ok (.iaload, 1) := by decide +kernel
theorem dX9_mayBeHeard_18 : decode cX9_mayBeHeard 18 = .ok (.if_icmp .lt 16, 3) := by decide +kernel
theorem dX9_mayBeHeard_21 : decode cX9_mayBeHeard 21 = .ok (.iload_n 1, 1) := by decide +kernel
theorem dX9_mayBeHeard_22 : decode cX9_mayBeHeard 22 = .ok (.getstatic 372, 3) := by decide +kernel
theorem dX9_mayBeHeard_25 : decode cX9_mayBeHeard 25 = .ok (.iload_n 0, 1) := by decide +kernel
theorem dX9_mayBeHeard_26 : decode cX9_mayBeHeard 26 = .ok (.iaload, 1) := by decide +kernel
theorem dX9_mayBeHeard_27 : decode cX9_mayBeHeard 27 = .ok (.if_icmp .gt 7, 3) := by decide +kernel
theorem dX9_mayBeHeard_30 : decode cX9_mayBeHeard 30 = .ok (.iconst 1, 1) := by decide +kernel
theorem dX9_mayBeHeard_31 : decode cX9_mayBeHeard 31 = .ok (.goto 4, 3) := by decide +kernel
theorem dX9_mayBeHeard_34 : decode cX9_mayBeHeard 34 = .ok (.iconst 0, 1) := by decide +kernel
theorem dX9_mayBeHeard_35 : decode cX9_mayBeHeard 35 = .ok (.ireturn, 1) := by decide +kernel
theorem dX9_heard_0 : decode cX9_heard 0 = .ok (.iload_n 1, 1) := by decide +kernel
theorem dX9_heard_1 : decode cX9_heard 1 = .ok (.iload_n 2, 1) := by decide +kernel
theorem dX9_heard_2 : decode cX9_heard 2 = .ok (.invokestatic 355, 3) := by decide +kernel
theorem dX9_heard_5 : decode cX9_heard 5 = .ok (.ifCond .eq 15, 3) := by decide +kernel
theorem dX9_heard_8 : decode cX9_heard 8 = .ok (.aload_n 0, 1) := by decide +kernel
theorem dX9_heard_9 : decode cX9_heard 9 = .ok (.getfield 57, 3) := by decide +kernel
theorem dX9_heard_12 : decode cX9_heard 12 = .ok (.getfield 358, 3) := by decide +kernel
theorem dX9_heard_15 : decode cX9_heard 15 = .ok (.bipush 12, 2) := by decide +kernel
theorem dX9_heard_17 : decode cX9_heard 17 = .ok (.if_icmp .lt 5, 3) := by decide +kernel
theorem dX9_heard_20 : decode cX9_heard 20 = .ok (.iconst (-1), 1) := by decide +kernel
theorem dX9_heard_21 : decode cX9_heard 21 = .ok (.ireturn, 1) := by decide +kernel
theorem dX9_heard_22 : decode cX9_heard 22 = .ok (.aload_n 0, 1) := by decide +kernel
theorem dX9_heard_23 : decode cX9_heard 23 = .ok (.getfield 57, 3) := by decide +kernel
theorem dX9_heard_26 : decode cX9_heard 26 = .ok (.iload_n 1, 1) := by decide +kernel
theorem dX9_heard_27 : decode cX9_heard 27 = .ok (.iload_n 2, 1) := by decide +kernel
theorem dX9_heard_28 : decode cX9_heard 28 = .ok (.invokevirtual 359, 3) := by decide +kernel
theorem dX9_heard_31 : decode cX9_heard 31 = .ok (.aload_n 0, 1) := by decide +kernel
theorem dX9_heard_32 : decode cX9_heard 32 = .ok (.getfield 57, 3) := by decide +kernel
theorem dX9_heard_35 : decode cX9_heard 35 = .ok (.getfield 358, 3) := by decide +kernel
theorem dX9_heard_38 : decode cX9_heard 38 = .ok (.ireturn, 1) := by decide +kernel
theorem dX9_forget_0 : decode cX9_forget 0 = .ok (.aload_n 0, 1) := by decide +kernel
theorem dX9_forget_1 : decode cX9_forget 1 = .ok (.getfield 57, 3) := by decide +kernel
theorem dX9_forget_4 : decode cX9_forget 4 = .ok (.getfield 358, 3) := by decide +kernel
theorem dX9_forget_7 : decode cX9_forget 7 = .ok (.istore_n 1, 1) := by decide +kernel
theorem dX9_forget_8 : decode cX9_forget 8 = .ok (.aload_n 0, 1) := by decide +kernel
theorem dX9_forget_9 : decode cX9_forget 9 = .ok (.getfield 57, 3) := by decide +kernel
theorem dX9_forget_12 : decode cX9_forget 12 = .ok (.iconst 0, 1) := by decide +kernel
theorem dX9_forget_13 : decode cX9_forget 13 = .ok (.putfield 358, 3) := by decide +kernel
theorem dX9_forget_16 : decode cX9_forget 16 = .ok (.iload_n 1, 1) := by decide +kernel
theorem dX9_forget_17 : decode cX9_forget 17 = .ok (.ireturn, 1) := by decide +kernel
theorem dX9_boatsOfWhich_0 : decode cX9_boatsOfWhich 0 = .ok (.iconst 1, 1) := by decide +kernel
theorem dX9_boatsOfWhich_1 : decode cX9_boatsOfWhich 1 = .ok (.aload_n 0, 1) := by decide +kernel
theorem dX9_boatsOfWhich_2 : decode cX9_boatsOfWhich 2 = .ok (.getfield 26, 3) := by decide +kernel
theorem dX9_boatsOfWhich_5 : decode cX9_boatsOfWhich 5 = .ok (.getfield 282, 3) := by decide +kernel
theorem dX9_boatsOfWhich_8 : decode cX9_boatsOfWhich 8 = .ok (.ishl, 1) := by decide +kernel
theorem dX9_boatsOfWhich_9 : decode cX9_boatsOfWhich 9 = .ok (.iconst 1, 1) := by decide +kernel
theorem dX9_boatsOfWhich_10 : decode cX9_boatsOfWhich 10 = .ok (.isub, 1) := by decide +kernel
theorem dX9_boatsOfWhich_11 : decode cX9_boatsOfWhich 11 = .ok (.istore_n 3, 1) := by decide +kernel
theorem dX9_boatsOfWhich_12 : decode cX9_boatsOfWhich 12 = .ok (.iload_n 1, 1) := by decide +kernel
theorem dX9_boatsOfWhich_13 : decode cX9_boatsOfWhich 13 = .ok (.iconst 3, 1) := by decide +kernel
theorem dX9_boatsOfWhich_14 : decode cX9_boatsOfWhich 14 = .ok (.if_icmp .ne 30, 3) := by decide +kernel
theorem dX9_boatsOfWhich_17 : decode cX9_boatsOfWhich 17 = .ok (.iload_n 2, 1) := by decide +kernel
theorem dX9_boatsOfWhich_18 : decode cX9_boatsOfWhich 18 = .ok (.iconst 1, 1) := by decide +kernel
theorem dX9_boatsOfWhich_19 : decode cX9_boatsOfWhich 19 = .ok (.if_icmp .ne 13, 3) := by decide +kernel
theorem dX9_boatsOfWhich_22 : decode cX9_boatsOfWhich 22 = .ok (.aload_n 0, 1) := by decide +kernel
theorem dX9_boatsOfWhich_23 : decode cX9_boatsOfWhich 23 = .ok (.getfield 64, 3) := by decide +kernel
theorem dX9_boatsOfWhich_26 : decode cX9_boatsOfWhich 26 = .ok (.invokevirtual 263, 3) := by decide +kernel
theorem dX9_boatsOfWhich_29 : decode cX9_boatsOfWhich 29 = .ok (.goto 14, 3) := by decide +kernel
theorem dX9_boatsOfWhich_32 : decode cX9_boatsOfWhich 32 = .ok (.iload_n 3, 1) := by decide +kernel
theorem dX9_boatsOfWhich_33 : decode cX9_boatsOfWhich 33 = .ok (.aload_n 0, 1) := by decide +kernel
theorem dX9_boatsOfWhich_34 : decode cX9_boatsOfWhich 34 = .ok (.getfield 64, 3) := by decide +kernel
theorem dX9_boatsOfWhich_37 : decode cX9_boatsOfWhich 37 = .ok (.invokevirtual 263, 3) := by decide +kernel
theorem dX9_boatsOfWhich_40 : decode cX9_boatsOfWhich 40 = .ok (.iconst (-1), 1) := by decide +kernel
theorem dX9_boatsOfWhich_41 : decode cX9_boatsOfWhich 41 = .ok (.ixor, 1) := by decide +kernel
theorem dX9_boatsOfWhich_42 : decode cX9_boatsOfWhich 42 = .ok (.iand, 1) := by decide +kernel
theorem dX9_boatsOfWhich_43 : decode cX9_boatsOfWhich 43 = .ok (.ireturn, 1) := by decide +kernel
theorem dX9_boatsOfWhich_44 : decode cX9_boatsOfWhich 44 = .ok (.iload_n 1, 1) := by decide +kernel
theorem dX9_boatsOfWhich_45 : decode cX9_boatsOfWhich 45 = .ok (.iconst 4, 1) := by decide +kernel
theorem dX9_boatsOfWhich_46 : decode cX9_boatsOfWhich 46 = .ok (.if_icmp .ne 30, 3) := by decide +kernel
theorem dX9_boatsOfWhich_49 : decode cX9_boatsOfWhich 49 = .ok (.iload_n 2, 1) := by decide +kernel
theorem dX9_boatsOfWhich_50 : decode cX9_boatsOfWhich 50 = .ok (.iconst 1, 1) := by decide +kernel
theorem dX9_boatsOfWhich_51 : decode cX9_boatsOfWhich 51 = .ok (.if_icmp .ne 13, 3) := by decide +kernel
theorem dX9_boatsOfWhich_54 : decode cX9_boatsOfWhich 54 = .ok (.aload_n 0, 1) := by decide +kernel
theorem dX9_boatsOfWhich_55 : decode cX9_boatsOfWhich 55 = .ok (.getfield 64, 3) := by decide +kernel
theorem dX9_boatsOfWhich_58 : decode cX9_boatsOfWhich 58 = .ok (.invokevirtual 266, 3) := by decide +kernel
theorem dX9_boatsOfWhich_61 : decode cX9_boatsOfWhich 61 = .ok (.goto 14, 3) := by decide +kernel
theorem dX9_boatsOfWhich_64 : decode cX9_boatsOfWhich 64 = .ok (.iload_n 3, 1) := by decide +kernel
theorem dX9_boatsOfWhich_65 : decode cX9_boatsOfWhich 65 = .ok (.aload_n 0, 1) := by decide +kernel
theorem dX9_boatsOfWhich_66 : decode cX9_boatsOfWhich 66 = .ok (.getfield 64, 3) := by decide +kernel
theorem dX9_boatsOfWhich_69 : decode cX9_boatsOfWhich 69 = .ok (.invokevirtual 266, 3) := by decide +kernel
theorem dX9_boatsOfWhich_72 : decode cX9_boatsOfWhich 72 = .ok (.iconst (-1), 1) := by decide +kernel
theorem dX9_boatsOfWhich_73 : decode cX9_boatsOfWhich 73 = .ok (.ixor, 1) := by decide +kernel
theorem dX9_boatsOfWhich_74 : decode cX9_boatsOfWhich 74 = .ok (.iand, 1) := by decide +kernel
theorem dX9_boatsOfWhich_75 : decode cX9_boatsOfWhich 75 = .ok (.ireturn, 1) := by decide +kernel
theorem dX9_boatsOfWhich_76 : decode cX9_boatsOfWhich 76 = .ok (.iconst 0, 1) := by decide +kernel
theorem dX9_boatsOfWhich_77 : decode cX9_boatsOfWhich 77 = .ok (.istore 4, 2) := by decide +kernel
theorem dX9_boatsOfWhich_79 : decode cX9_boatsOfWhich 79 = .ok (.iconst 0, 1) := by decide +kernel
theorem dX9_boatsOfWhich_80 : decode cX9_boatsOfWhich 80 = .ok (.istore 5, 2) := by decide +kernel
theorem dX9_boatsOfWhich_82 : decode cX9_boatsOfWhich 82 = .ok (.iload 5, 2) := by decide +kernel
theorem dX9_boatsOfWhich_84 : decode cX9_boatsOfWhich 84 = .ok (.aload_n 0, 1) := by decide +kernel
theorem dX9_boatsOfWhich_85 : decode cX9_boatsOfWhich 85 = .ok (.getfield 26, 3) := by decide +kernel
theorem dX9_boatsOfWhich_88 : decode cX9_boatsOfWhich 88 = .ok (.getfield 282, 3) := by decide +kernel
theorem dX9_boatsOfWhich_91 : decode cX9_boatsOfWhich 91 = .ok (.if_icmp .ge 101, 3) := by decide +kernel
theorem dX9_boatsOfWhich_94 : decode cX9_boatsOfWhich 94 = .ok (.iload_n 1, 1) := by decide +kernel
theorem dX9_boatsOfWhich_95 : decode cX9_boatsOfWhich 95 = .ok (.ifCond .ne 25, 3) := by decide +kernel
theorem dX9_boatsOfWhich_98 : decode cX9_boatsOfWhich 98 = .ok (.aload_n 0, 1) := by decide +kernel
theorem dX9_boatsOfWhich_99 : decode cX9_boatsOfWhich 99 = .ok (.getfield 26, 3) := by decide +kernel
theorem dX9_boatsOfWhich_102 : decode cX9_boatsOfWhich 102 = .ok (.getfield 145, 3) := by decide +kernel
theorem dX9_boatsOfWhich_105 : decode cX9_boatsOfWhich 105 = .ok (.iload 5, 2) := by decide +kernel
theorem dX9_boatsOfWhich_107 : decode cX9_boatsOfWhich 107 = .ok (.iaload, 1) := by decide +kernel
theorem dX9_boatsOfWhich_108 : decode cX9_boatsOfWhich 108 = .ok (.iload_n 2, 1) := by decide +kernel
theorem dX9_boatsOfWhich_109 : decode cX9_boatsOfWhich 109 = .ok (.if_icmp .lt 7, 3) := by decide +kernel
theorem dX9_boatsOfWhich_112 : decode cX9_boatsOfWhich 112 = .ok (.iconst 1, 1) := by decide +kernel
theorem dX9_boatsOfWhich_113 : decode cX9_boatsOfWhich 113 = .ok (.goto 53, 3) := by decide +kernel
theorem dX9_boatsOfWhich_116 : decode cX9_boatsOfWhich 116 = .ok (.iconst 0, 1) := by decide +kernel
theorem dX9_boatsOfWhich_117 : decode cX9_boatsOfWhich 117 = .ok (.goto 49, 3) := by decide +kernel
theorem dX9_boatsOfWhich_120 : decode cX9_boatsOfWhich 120 = .ok (.iload_n 1, 1) := by decide +kernel
theorem dX9_boatsOfWhich_121 : decode cX9_boatsOfWhich 121 = .ok (.iconst 1, 1) := by decide +kernel
theorem dX9_boatsOfWhich_122 : decode cX9_boatsOfWhich 122 = .ok (.if_icmp .ne 25, 3) := by decide +kernel
theorem dX9_boatsOfWhich_125 : decode cX9_boatsOfWhich 125 = .ok (.aload_n 0, 1) := by decide +kernel
theorem dX9_boatsOfWhich_126 : decode cX9_boatsOfWhich 126 = .ok (.getfield 26, 3) := by decide +kernel
theorem dX9_boatsOfWhich_129 : decode cX9_boatsOfWhich 129 = .ok (.getfield 148, 3) := by decide +kernel
theorem dX9_boatsOfWhich_132 : decode cX9_boatsOfWhich 132 = .ok (.iload 5, 2) := by decide +kernel
theorem dX9_boatsOfWhich_134 : decode cX9_boatsOfWhich 134 = .ok (.iaload, 1) := by decide +kernel
theorem dX9_boatsOfWhich_135 : decode cX9_boatsOfWhich 135 = .ok (.iload_n 2, 1) := by decide +kernel
theorem dX9_boatsOfWhich_136 : decode cX9_boatsOfWhich 136 = .ok (.if_icmp .lt 7, 3) := by decide +kernel
theorem dX9_boatsOfWhich_139 : decode cX9_boatsOfWhich 139 = .ok (.iconst 1, 1) := by decide +kernel
theorem dX9_boatsOfWhich_140 : decode cX9_boatsOfWhich 140 = .ok (.goto 26, 3) := by decide +kernel
theorem dX9_boatsOfWhich_143 : decode cX9_boatsOfWhich 143 = .ok (.iconst 0, 1) := by decide +kernel
theorem dX9_boatsOfWhich_144 : decode cX9_boatsOfWhich 144 = .ok (.goto 22, 3) := by decide +kernel
theorem dX9_boatsOfWhich_147 : decode cX9_boatsOfWhich 147 = .ok (.aload_n 0, 1) := by decide +kernel
theorem dX9_boatsOfWhich_148 : decode cX9_boatsOfWhich 148 = .ok (.getfield 26, 3) := by decide +kernel
theorem dX9_boatsOfWhich_151 : decode cX9_boatsOfWhich 151 = .ok (.getfield 151, 3) := by decide +kernel
theorem dX9_boatsOfWhich_154 : decode cX9_boatsOfWhich 154 = .ok (.iload 5, 2) := by decide +kernel
theorem dX9_boatsOfWhich_156 : decode cX9_boatsOfWhich 156 = .ok (.iaload, 1) := by decide +kernel
theorem dX9_boatsOfWhich_157 : decode cX9_boatsOfWhich 157 = .ok (.iload_n 2, 1) := by decide +kernel
theorem dX9_boatsOfWhich_158 : decode cX9_boatsOfWhich 158 = .ok (.if_icmp .gt 7, 3) := by decide +kernel
theorem dX9_boatsOfWhich_161 : decode cX9_boatsOfWhich 161 = .ok (.iconst 1, 1) := by decide +kernel
theorem dX9_boatsOfWhich_162 : decode cX9_boatsOfWhich 162 = .ok (.goto 4, 3) := by decide +kernel
theorem dX9_boatsOfWhich_165 : decode cX9_boatsOfWhich 165 = .ok (.iconst 0, 1) := by decide +kernel
theorem dX9_boatsOfWhich_166 : decode cX9_boatsOfWhich 166 = .ok (.istore 6, 2) := by decide +kernel
theorem dX9_boatsOfWhich_168 : decode cX9_boatsOfWhich 168 = .ok (.iload 4, 2) := by decide +kernel
theorem dX9_boatsOfWhich_170 : decode cX9_boatsOfWhich 170 = .ok (.iload 6, 2) := by decide +kernel
theorem dX9_boatsOfWhich_172 : decode cX9_boatsOfWhich 172 = .ok (.ifCond .eq 10, 3) := by decide +kernel
theorem dX9_boatsOfWhich_175 : decode cX9_boatsOfWhich 175 = .ok (.iconst 1, 1) := by decide +kernel
theorem dX9_boatsOfWhich_176 : decode cX9_boatsOfWhich 176 = .ok (.iload 5, 2) := by decide +kernel
theorem dX9_boatsOfWhich_178 : decode cX9_boatsOfWhich 178 = .ok (.ishl, 1) := by decide +kernel
theorem dX9_boatsOfWhich_179 : decode cX9_boatsOfWhich 179 = .ok (.goto 4, 3) := by decide +kernel
theorem dX9_boatsOfWhich_182 : decode cX9_boatsOfWhich 182 = .ok (.iconst 0, 1) := by decide +kernel
theorem dX9_boatsOfWhich_183 : decode cX9_boatsOfWhich 183 = .ok (.ior, 1) := by decide +kernel
theorem dX9_boatsOfWhich_184 : decode cX9_boatsOfWhich 184 = .ok (.istore 4, 2) := by decide +kernel
theorem dX9_boatsOfWhich_186 : decode cX9_boatsOfWhich 186 = .ok (.iinc 5 1, 3) := by decide +kernel
theorem dX9_boatsOfWhich_189 : decode cX9_boatsOfWhich 189 = .ok (.goto (-107), 3) := by decide +kernel
theorem dX9_boatsOfWhich_192 : decode cX9_boatsOfWhich 192 = .ok (.iload 4, 2) := by decide +kernel
theorem dX9_boatsOfWhich_194 : decode cX9_boatsOfWhich 194 = .ok (.ireturn, 1) := by decide +kernel
theorem dX9_fittingBoats_0 : decode cX9_fittingBoats 0 = .ok (.aload_n 0, 1) := by decide +kernel
theorem dX9_fittingBoats_1 : decode cX9_fittingBoats 1 = .ok (.getfield 64, 3) := by decide +kernel
theorem dX9_fittingBoats_4 : decode cX9_fittingBoats 4 = .ok (.aload_n 0, 1) := by decide +kernel
theorem dX9_fittingBoats_5 : decode cX9_fittingBoats 5 = .ok (.getfield 26, 3) := by decide +kernel
theorem dX9_fittingBoats_8 : decode cX9_fittingBoats 8 = .ok (.aload_n 0, 1) := by decide +kernel
theorem dX9_fittingBoats_9 : decode cX9_fittingBoats 9 = .ok (.getfield 100, 3) := by decide +kernel
theorem dX9_fittingBoats_12 : decode cX9_fittingBoats 12 = .ok (.invokevirtual 157, 3) := by decide +kernel
theorem dX9_fittingBoats_15 : decode cX9_fittingBoats 15 = .ok (.iconst 1, 1) := by decide +kernel
theorem dX9_fittingBoats_16 : decode cX9_fittingBoats 16 = .ok (.aload_n 0, 1) := by decide +kernel
theorem dX9_fittingBoats_17 : decode cX9_fittingBoats 17 = .ok (.getfield 26, 3) := by decide +kernel
theorem dX9_fittingBoats_20 : decode cX9_fittingBoats 20 = .ok (.getfield 282, 3) := by decide +kernel
theorem dX9_fittingBoats_23 : decode cX9_fittingBoats 23 = .ok (.ishl, 1) := by decide +kernel
theorem dX9_fittingBoats_24 : decode cX9_fittingBoats 24 = .ok (.iconst 1, 1) := by decide +kernel
theorem dX9_fittingBoats_25 : decode cX9_fittingBoats 25 = .ok (.isub, 1) := by decide +kernel
theorem dX9_fittingBoats_26 : decode cX9_fittingBoats 26 = .ok (.istore_n 1, 1) := by decide +kernel
theorem dX9_fittingBoats_27 : decode cX9_fittingBoats 27 = .ok (.iconst 0, 1) := by decide +kernel
theorem dX9_fittingBoats_28 : decode cX9_fittingBoats 28 = .ok (.istore_n 2, 1) := by decide +kernel
theorem dX9_fittingBoats_29 : decode cX9_fittingBoats 29 = .ok (.iload_n 2, 1) := by decide +kernel
theorem dX9_fittingBoats_30 : decode cX9_fittingBoats 30 = .ok (.aload_n 0, 1) := by decide +kernel
theorem dX9_fittingBoats_31 : decode cX9_fittingBoats 31 = .ok (.getfield 57, 3) := by decide +kernel
theorem dX9_fittingBoats_34 : decode cX9_fittingBoats 34 = .ok (.getfield 358, 3) := by decide +kernel
theorem dX9_fittingBoats_37 : decode cX9_fittingBoats 37 = .ok (.if_icmp .ge 34, 3) := by decide +kernel
theorem dX9_fittingBoats_40 : decode cX9_fittingBoats 40 = .ok (.iload_n 1, 1) := by decide +kernel
theorem dX9_fittingBoats_41 : decode cX9_fittingBoats 41 = .ok (.aload_n 0, 1) := by decide +kernel
theorem dX9_fittingBoats_42 : decode cX9_fittingBoats 42 = .ok (.aload_n 0, 1) := by decide +kernel
theorem dX9_fittingBoats_43 : decode cX9_fittingBoats 43 = .ok (.getfield 57, 3) := by decide +kernel
theorem dX9_fittingBoats_46 : decode cX9_fittingBoats 46 = .ok (.getfield 429, 3) := by decide +kernel
theorem dX9_fittingBoats_49 : decode cX9_fittingBoats 49 = .ok (.iload_n 2, 1) := by decide +kernel
theorem dX9_fittingBoats_50 : decode cX9_fittingBoats 50 = .ok (.iaload, 1) := by decide +kernel
theorem dX9_fittingBoats_51 : decode cX9_fittingBoats 51 = .ok (.aload_n 0, 1) := by decide +kernel
theorem dX9_fittingBoats_52 : decode cX9_fittingBoats 52 = .ok (.getfield 57, 3) := by decide +kernel
theorem dX9_fittingBoats_55 : decode cX9_fittingBoats 55 = .ok (.getfield 432, 3) := by decide +kernel
theorem dX9_fittingBoats_58 : decode cX9_fittingBoats 58 = .ok (.iload_n 2, 1) := by decide +kernel
theorem dX9_fittingBoats_59 : decode cX9_fittingBoats 59 = .ok (.iaload, 1) := by decide +kernel
theorem dX9_fittingBoats_60 : decode cX9_fittingBoats 60 = .ok (.invokevirtual 375, 3) := by decide +kernel
theorem dX9_fittingBoats_63 : decode cX9_fittingBoats 63 = .ok (.iand, 1) := by decide +kernel
theorem dX9_fittingBoats_64 : decode cX9_fittingBoats 64 = .ok (.istore_n 1, 1) := by decide +kernel
theorem dX9_fittingBoats_65 : decode cX9_fittingBoats 65 = .ok (.iinc 2 1, 3) := by decide +kernel
theorem dX9_fittingBoats_68 : decode cX9_fittingBoats 68 = .ok (.goto (-39), 3) := by decide +kernel
theorem dX9_fittingBoats_71 : decode cX9_fittingBoats 71 = .ok (.iload_n 1, 1) := by decide +kernel
theorem dX9_fittingBoats_72 : decode cX9_fittingBoats 72 = .ok (.ireturn, 1) := by decide +kernel
theorem dX9_fits_0 : decode cX9_fits 0 = .ok (.aload_n 0, 1) := by decide +kernel
theorem dX9_fits_1 : decode cX9_fits 1 = .ok (.invokevirtual 361, 3) := by decide +kernel
theorem dX9_fits_4 : decode cX9_fits 4 = .ok (.istore_n 1, 1) := by decide +kernel
theorem dX9_fits_5 : decode cX9_fits 5 = .ok (.aload_n 0, 1) := by decide +kernel
theorem dX9_fits_6 : decode cX9_fits 6 = .ok (.getfield 19, 3) := by decide +kernel
theorem dX9_fits_9 : decode cX9_fits 9 = .ok (.iload_n 1, 1) := by decide +kernel
theorem dX9_fits_10 : decode cX9_fits 10 = .ok (.invokestatic 364, 3) := by decide +kernel
theorem dX9_fits_13 : decode cX9_fits 13 = .ok (.i2l, 1) := by decide +kernel
theorem dX9_fits_14 : decode cX9_fits 14 = .ok (.invokevirtual 186, 3) := by decide +kernel
theorem dX9_fits_17 : decode cX9_fits 17 = .ok (.iload_n 1, 1) := by decide +kernel
theorem dX9_fits_18 : decode cX9_fits 18 = .ok (.ireturn, 1) := by decide +kernel
theorem dX9_asks_0 : decode cX9_asks 0 = .ok (.aload_n 0, 1) := by decide +kernel
theorem dX9_asks_1 : decode cX9_asks 1 = .ok (.invokevirtual 361, 3) := by decide +kernel
theorem dX9_asks_4 : decode cX9_asks 4 = .ok (.istore_n 1, 1) := by decide +kernel
theorem dX9_asks_5 : decode cX9_asks 5 = .ok (.iload_n 1, 1) := by decide +kernel
theorem dX9_asks_6 : decode cX9_asks 6 = .ok (.ifCond .ne 6, 3) := by decide +kernel
theorem dX9_asks_9 : decode cX9_asks 9 = .ok (.bipush (-2), 2) := by decide +kernel
theorem dX9_asks_11 : decode cX9_asks 11 = .ok (.ireturn, 1) := by decide +kernel
theorem dX9_asks_12 : decode cX9_asks 12 = .ok (.iload_n 1, 1) := by decide +kernel
theorem dX9_asks_13 : decode cX9_asks 13 = .ok (.invokestatic 364, 3) := by decide +kernel
theorem dX9_asks_16 : decode cX9_asks 16 = .ok (.istore_n 2, 1) := by decide +kernel
theorem dX9_asks_17 : decode cX9_asks 17 = .ok (.iload_n 2, 1) := by decide +kernel
theorem dX9_asks_18 : decode cX9_asks 18 = .ok (.iconst 1, 1) := by decide +kernel
theorem dX9_asks_19 : decode cX9_asks 19 = .ok (.iadd, 1) := by decide +kernel
theorem dX9_asks_20 : decode cX9_asks 20 = .ok (.istore_n 3, 1) := by decide +kernel
theorem dX9_asks_21 : decode cX9_asks 21 = .ok (.iconst (-1), 1) := by decide +kernel
theorem dX9_asks_22 : decode cX9_asks 22 = .ok (.istore 4, 2) := by decide +kernel
theorem dX9_asks_24 : decode cX9_asks 24 = .ok (.iconst 0, 1) := by decide +kernel
theorem dX9_asks_25 : decode cX9_asks 25 = .ok (.istore 5, 2) := by decide +kernel
theorem dX9_asks_27 : decode cX9_asks 27 = .ok (.iload 5, 2) := by decide +kernel
theorem dX9_asks_29 : decode cX9_asks 29 = .ok (.getstatic 369, 3) := by decide +kernel
theorem dX9_asks_32 : decode cX9_asks 32 = .ok (.arraylength, 1) := by decide +kernel
theorem dX9_asks_33 : decode cX9_asks 33 = .ok (.if_icmp .ge 79, 3) := by decide +kernel
theorem dX9_asks_36 : decode cX9_asks 36 = .ok (.getstatic 369, 3) := by decide +kernel
theorem dX9_asks_39 : decode cX9_asks 39 = .ok (.iload 5, 2) := by decide +kernel
theorem dX9_asks_41 : decode cX9_asks 41 = .ok (.iaload, 1) := by decide +kernel
theorem dX9_asks_42 : decode cX9_asks 42 = .ok (.istore 6, 2) := by decide +kernel
theorem dX9_asks_44 : decode cX9_asks 44 = .ok (.iload 6, 2) := by decide +kernel
theorem dX9_asks_46 : decode cX9_asks 46 = .ok (.getstatic 372, 3) := by decide +kernel
theorem dX9_asks_49 : decode cX9_asks 49 = .ok (.iload 5, 2) := by decide +kernel
theorem dX9_asks_51 : decode cX9_asks 51 = .ok (.iaload, 1) := by decide +kernel
theorem dX9_asks_52 : decode cX9_asks 52 = .ok (.if_icmp .gt 54, 3) := by decide +kernel
theorem dX9_asks_55 : decode cX9_asks 55 = .ok (.iload_n 1, 1) := by decide +kernel
theorem dX9_asks_56 : decode cX9_asks 56 = .ok (.aload_n 0, 1) := by decide +kernel
theorem dX9_asks_57 : decode cX9_asks 57 = .ok (.iload 5, 2) := by decide +kernel
theorem dX9_asks_59 : decode cX9_asks 59 = .ok (.iload 6, 2) := by decide +kernel
theorem dX9_asks_61 : decode cX9_asks 61 = .ok (.invokevirtual 375, 3) := by decide +kernel
theorem dX9_asks_64 : decode cX9_asks 64 = .ok (.iand, 1) := by decide +kernel
theorem dX9_asks_65 : decode cX9_asks 65 = .ok (.invokestatic 364, 3) := by decide +kernel
theorem dX9_asks_68 : decode cX9_asks 68 = .ok (.istore 7, 2) := by decide +kernel
theorem dX9_asks_70 : decode cX9_asks 70 = .ok (.iload 7, 2) := by decide +kernel
theorem dX9_asks_72 : decode cX9_asks 72 = .ok (.iload_n 2, 1) := by decide +kernel
theorem dX9_asks_73 : decode cX9_asks 73 = .ok (.iload 7, 2) := by decide +kernel
theorem dX9_asks_75 : decode cX9_asks 75 = .ok (.isub, 1) := by decide +kernel
theorem dX9_asks_76 : decode cX9_asks 76 = .ok (.invokestatic 378, 3) := by decide +kernel
theorem dX9_asks_79 : decode cX9_asks 79 = .ok (.istore 8, 2) := by decide +kernel
theorem dX9_asks_81 : decode cX9_asks 81 = .ok (.iload 8, 2) := by decide +kernel
theorem dX9_asks_83 : decode cX9_asks 83 = .ok (.iload_n 3, 1) := by decide +kernel
theorem dX9_asks_84 : decode cX9_asks 84 = .ok (.if_icmp .ge 16, 3) := by decide +kernel
theorem dX9_asks_87 : decode cX9_asks 87 = .ok (.iload 8, 2) := by decide +kernel
theorem dX9_asks_89 : decode cX9_asks 89 = .ok (.istore_n 3, 1) := by decide +kernel
theorem dX9_asks_90 : decode cX9_asks 90 = .ok (.bipush 10, 2) := by decide +kernel
theorem dX9_asks_92 : decode cX9_asks 92 = .ok (.iload 5, 2) := by decide +kernel
theorem dX9_asks_94 : decode cX9_asks 94 = .ok (.imul, 1) := by decide +kernel
theorem dX9_asks_95 : decode cX9_asks 95 = .ok (.iload 6, 2) := by decide +kernel
theorem dX9_asks_97 : decode cX9_asks 97 = .ok (.iadd, 1) := by decide +kernel
theorem dX9_asks_98 : decode cX9_asks 98 = .ok (.istore 4, 2) := by decide +kernel
theorem dX9_asks_100 : decode cX9_asks 100 = .ok (.iinc 6 1, 3) := by decide +kernel
theorem dX9_asks_103 : decode cX9_asks 103 = .ok (.goto (-59), 3) := by decide +kernel
theorem dX9_asks_106 : decode cX9_asks 106 = .ok (.iinc 5 1, 3) := by decide +kernel
theorem dX9_asks_109 : decode cX9_asks 109 = .ok (.goto (-82), 3) := by decide +kernel
theorem dX9_asks_112 : decode cX9_asks 112 = .ok (.aload_n 0, 1) := by decide +kernel
theorem dX9_asks_113 : decode cX9_asks 113 = .ok (.getfield 19, 3) := by decide +kernel
theorem dX9_asks_116 : decode cX9_asks 116 = .ok (.iload_n 3, 1) := by decide +kernel
theorem dX9_asks_117 : decode cX9_asks 117 = .ok (.i2l, 1) := by decide +kernel
theorem dX9_asks_118 : decode cX9_asks 118 = .ok (.invokevirtual 186, 3) := by decide +kernel
theorem dX9_asks_121 : decode cX9_asks 121 = .ok (.iload 4, 2) := by decide +kernel
theorem dX9_asks_123 : decode cX9_asks 123 = .ok (.ireturn, 1) := by decide +kernel
theorem dX9_weightOf_0 : decode cX9_weightOf 0 = .ok (.iconst 1, 1) := by decide +kernel
theorem dX9_weightOf_1 : decode cX9_weightOf 1 = .ok (.istore_n 3, 1) := by decide +kernel
theorem dX9_weightOf_2 : decode cX9_weightOf 2 = .ok (.iconst 0, 1) := by decide +kernel
theorem dX9_weightOf_3 : decode cX9_weightOf 3 = .ok (.istore 4, 2) := by decide +kernel
theorem dX9_weightOf_5 : decode cX9_weightOf 5 = .ok (.iload 4, 2) := by decide +kernel
theorem dX9_weightOf_7 : decode cX9_weightOf 7 = .ok (.aload_n 0, 1) := by decide +kernel
theorem dX9_weightOf_8 : decode cX9_weightOf 8 = .ok (.getfield 26, 3) := by decide +kernel
theorem dX9_weightOf_11 : decode cX9_weightOf 11 = .ok (.getfield 282, 3) := by decide +kernel
theorem dX9_weightOf_14 : decode cX9_weightOf 14 = .ok (.if_icmp .ge 29, 3) := by decide +kernel
theorem dX9_weightOf_17 : decode cX9_weightOf 17 = .ok (.iload_n 3, 1) := by decide +kernel
theorem dX9_weightOf_18 : decode cX9_weightOf 18 = .ok (.iload_n 1, 1) := by decide +kernel
theorem dX9_weightOf_19 : decode cX9_weightOf 19 = .ok (.iload 4, 2) := by decide +kernel
theorem dX9_weightOf_21 : decode cX9_weightOf 21 = .ok (.ishr, 1) := by decide +kernel
theorem dX9_weightOf_22 : decode cX9_weightOf 22 = .ok (.iconst 1, 1) := by decide +kernel
theorem dX9_weightOf_23 : decode cX9_weightOf 23 = .ok (.iand, 1) := by decide +kernel
theorem dX9_weightOf_24 : decode cX9_weightOf 24 = .ok (.ifCond .eq 7, 3) := by decide +kernel
theorem dX9_weightOf_27 : decode cX9_weightOf 27 = .ok (.iload_n 2, 1) := by decide +kernel
theorem dX9_weightOf_28 : decode cX9_weightOf 28 = .ok (.goto 7, 3) := by decide +kernel
theorem dX9_weightOf_31 : decode cX9_weightOf 31 = .ok (.bipush 10, 2) := by decide +kernel
theorem dX9_weightOf_33 : decode cX9_weightOf 33 = .ok (.iload_n 2, 1) := by decide +kernel
theorem dX9_weightOf_34 : decode cX9_weightOf 34 = .ok (.isub, 1) := by decide +kernel
theorem dX9_weightOf_35 : decode cX9_weightOf 35 = .ok (.imul, 1) := by decide +kernel
theorem dX9_weightOf_36 : decode cX9_weightOf 36 = .ok (.istore_n 3, 1) := by decide +kernel
theorem dX9_weightOf_37 : decode cX9_weightOf 37 = .ok (.iinc 4 1, 3) := by decide +kernel
theorem dX9_weightOf_40 : decode cX9_weightOf 40 = .ok (.goto (-35), 3) := by decide +kernel
theorem dX9_weightOf_43 : decode cX9_weightOf 43 = .ok (.iload_n 3, 1) := by decide +kernel
theorem dX9_weightOf_44 : decode cX9_weightOf 44 = .ok (.ireturn, 1) := by decide +kernel
theorem dX9_rowBetter_0 : decode cX9_rowBetter 0 = .ok (.iconst 0, 1) := by decide +kernel
theorem dX9_rowBetter_1 : decode cX9_rowBetter 1 = .ok (.istore_n 2, 1) := by decide +kernel
theorem dX9_rowBetter_2 : decode cX9_rowBetter 2 = .ok (.iload_n 2, 1) := by decide +kernel
theorem dX9_rowBetter_3 : decode cX9_rowBetter 3 = .ok (.aload_n 0, 1) := by decide +kernel
theorem dX9_rowBetter_4 : decode cX9_rowBetter 4 = .ok (.getfield 26, 3) := by decide +kernel
theorem dX9_rowBetter_7 : decode cX9_rowBetter 7 = .ok (.getfield 282, 3) := by decide +kernel
theorem dX9_rowBetter_10 : decode cX9_rowBetter 10 = .ok (.if_icmp .ge 33, 3) := by decide +kernel
theorem dX9_rowBetter_13 : decode cX9_rowBetter 13 = .ok (.aload_n 0, 1) := by decide +kernel
theorem dX9_rowBetter_14 : decode cX9_rowBetter 14 = .ok (.getfield 33, 3) := by decide +kernel
theorem dX9_rowBetter_17 : decode cX9_rowBetter 17 = .ok (.getfield 145, 3) := by decide +kernel
theorem dX9_rowBetter_20 : decode cX9_rowBetter 20 = .ok (.iload_n 2, 1) := by decide +kernel
theorem dX9_rowBetter_21 : decode cX9_rowBetter 21 = .ok (.aload_n 0, 1) := by decide +kernel
theorem dX9_rowBetter_22 : decode cX9_rowBetter 22 = .ok (.getfield 26, 3) := by decide +kernel
theorem dX9_rowBetter_25 : decode cX9_rowBetter 25 = .ok (.getfield 145, 3) := by decide +kernel
theorem dX9_rowBetter_28 : decode cX9_rowBetter 28 = .ok (.iload_n 2, 1) := by decide +kernel
theorem dX9_rowBetter_29 : decode cX9_rowBetter 29 = .ok (.iaload, 1) := by decide +kernel
theorem dX9_rowBetter_30 : decode cX9_rowBetter 30 = .ok (.iload_n 1, 1) := by decide +kernel
theorem dX9_rowBetter_31 : decode cX9_rowBetter 31 = .ok (.iload_n 2, 1) := by decide +kernel
theorem dX9_rowBetter_32 : decode cX9_rowBetter 32 = .ok (.ishr, 1) := by decide +kernel
theorem dX9_rowBetter_33 : decode cX9_rowBetter 33 = .ok (.iconst 1, 1) := by decide +kernel
theorem dX9_rowBetter_34 : decode cX9_rowBetter 34 = .ok (.iand, 1) := by decide +kernel
theorem dX9_rowBetter_35 : decode cX9_rowBetter 35 = .ok (.iadd, 1) := by decide +kernel
theorem dX9_rowBetter_36 : decode cX9_rowBetter 36 = .ok (.iastore, 1) := by decide +kernel
theorem dX9_rowBetter_37 : decode cX9_rowBetter 37 = .ok (.iinc 2 1, 3) := by decide +kernel
theorem dX9_rowBetter_40 : decode cX9_rowBetter 40 = .ok (.goto (-38), 3) := by decide +kernel
theorem dX9_rowBetter_43 : decode cX9_rowBetter 43 = .ok (.return_, 1) := by decide +kernel
theorem dX9_greatestDivisor_0 : decode cX9_greatestDivisor 0 = .ok (.iload_n 0, 1) := by decide +kernel
theorem dX9_greatestDivisor_1 : decode cX9_greatestDivisor 1 = .ok (.istore_n 2, 1) := by decide +kernel
theorem dX9_greatestDivisor_2 : decode cX9_greatestDivisor 2 = .ok (.iload_n 1, 1) := by decide +kernel
theorem dX9_greatestDivisor_3 : decode cX9_greatestDivisor 3 = .ok (.istore_n 3, 1) := by decide +kernel
theorem dX9_greatestDivisor_4 : decode cX9_greatestDivisor 4 = .ok (.iconst 0, 1) := by decide +kernel
theorem dX9_greatestDivisor_5 : decode cX9_greatestDivisor 5 = .ok (.istore 4, 2) := by decide +kernel
theorem dX9_greatestDivisor_7 : decode cX9_greatestDivisor 7 = .ok (.iload 4, 2) := by decide +kernel
theorem dX9_greatestDivisor_9 : decode cX9_greatestDivisor 9 = .ok (.bipush 64, 2) := by decide +kernel
theorem dX9_greatestDivisor_11 : decode cX9_greatestDivisor 11 = .ok (.if_icmp .ge 23, 3) := by decide +kernel
theorem dX9_greatestDivisor_14 : decode cX9_greatestDivisor 14 = .ok (.iload_n 3, 1) := by decide +kernel
theorem dX9_greatestDivisor_15 : decode cX9_greatestDivisor 15 = .ok (.ifCond .eq 19, 3) := by decide +kernel
theorem dX9_greatestDivisor_18 : decode cX9_greatestDivisor 18 = .ok (.iload_n 2, 1) := by decide +kernel
theorem dX9_greatestDivisor_19 : decode cX9_greatestDivisor 19 = .ok (.iload_n 3, 1) := by decide +kernel
theorem dX9_greatestDivisor_20 : decode cX9_greatestDivisor 20 = .ok (.irem, 1) := by decide +kernel
theorem dX9_greatestDivisor_21 : decode cX9_greatestDivisor 21 = .ok (.istore 5, 2) := by decide +kernel
theorem dX9_greatestDivisor_23 : decode cX9_greatestDivisor 23 = .ok (.iload_n 3, 1) := by decide +kernel
theorem dX9_greatestDivisor_24 : decode cX9_greatestDivisor 24 = .ok (.istore_n 2, 1) := by decide +kernel
theorem dX9_greatestDivisor_25 : decode cX9_greatestDivisor 25 = .ok (.iload 5, 2) := by decide +kernel
theorem dX9_greatestDivisor_27 : decode cX9_greatestDivisor 27 = .ok (.istore_n 3, 1) := by decide +kernel
theorem dX9_greatestDivisor_28 : decode cX9_greatestDivisor 28 = .ok (.iinc 4 1, 3) := by decide +kernel
theorem dX9_greatestDivisor_31 : decode cX9_greatestDivisor 31 = .ok (.goto (-24), 3) := by decide +kernel
theorem dX9_greatestDivisor_34 : decode cX9_greatestDivisor 34 = .ok (.iload_n 2, 1) := by decide +kernel
theorem dX9_greatestDivisor_35 : decode cX9_greatestDivisor 35 = .ok (.ireturn, 1) := by decide +kernel
theorem dX9_likely_0 : decode cX9_likely 0 = .ok (.aload_n 0, 1) := by decide +kernel
theorem dX9_likely_1 : decode cX9_likely 1 = .ok (.getfield 26, 3) := by decide +kernel
theorem dX9_likely_4 : decode cX9_likely 4 = .ok (.iload_n 1, 1) := by decide +kernel
theorem dX9_likely_5 : decode cX9_likely 5 = .ok (.invokevirtual 134, 3) := by decide +kernel
theorem dX9_likely_8 : decode cX9_likely 8 = .ok (.ifCond .eq 13, 3) := by decide +kernel
theorem dX9_likely_11 : decode cX9_likely 11 = .ok (.iload_n 2, 1) := by decide +kernel
theorem dX9_likely_12 : decode cX9_likely 12 = .ok (.ifCond .lt 9, 3) := by decide +kernel
theorem dX9_likely_15 : decode cX9_likely 15 = .ok (.iload_n 2, 1) := by decide +kernel
theorem dX9_likely_16 : decode cX9_likely 16 = .ok (.bipush 10, 2) := by decide +kernel
theorem dX9_likely_18 : decode cX9_likely 18 = .ok (.if_icmp .le 5, 3) := by decide +kernel
theorem dX9_likely_21 : decode cX9_likely 21 = .ok (.iconst (-1), 1) := by decide +kernel
theorem dX9_likely_22 : decode cX9_likely 22 = .ok (.ireturn, 1) := by decide +kernel
theorem dX9_likely_23 : decode cX9_likely 23 = .ok (.aload_n 0, 1) := by decide +kernel
theorem dX9_likely_24 : decode cX9_likely 24 = .ok (.getfield 33, 3) := by decide +kernel
theorem dX9_likely_27 : decode cX9_likely 27 = .ok (.aload_n 0, 1) := by decide +kernel
theorem dX9_likely_28 : decode cX9_likely 28 = .ok (.getfield 26, 3) := by decide +kernel
theorem dX9_likely_31 : decode cX9_likely 31 = .ok (.invokevirtual 190, 3) := by decide +kernel
theorem dX9_likely_34 : decode cX9_likely 34 = .ok (.iconst 0, 1) := by decide +kernel
theorem dX9_likely_35 : decode cX9_likely 35 = .ok (.istore_n 3, 1) := by decide +kernel
theorem dX9_likely_36 : decode cX9_likely 36 = .ok (.iconst 1, 1) := by decide +kernel
theorem dX9_likely_37 : decode cX9_likely 37 = .ok (.istore 4, 2) := by decide +kernel
theorem dX9_likely_39 : decode cX9_likely 39 = .ok (.iconst 0, 1) := by decide +kernel
theorem dX9_likely_40 : decode cX9_likely 40 = .ok (.istore 5, 2) := by decide +kernel
theorem dX9_likely_42 : decode cX9_likely 42 = .ok (.iload 5, 2) := by decide +kernel
theorem dX9_likely_44 : decode cX9_likely 44 = .ok (.aload_n 0, 1) := by decide +kernel
theorem dX9_likely_45 : decode cX9_likely 45 = .ok (.getfield 26, 3) := by decide +kernel
theorem dX9_likely_48 : decode cX9_likely 48 = .ok (.getfield 282, 3) := by decide +kernel
theorem dX9_likely_51 : decode cX9_likely 51 = .ok (.if_icmp .ge 16, 3) := by decide +kernel
theorem dX9_likely_54 : decode cX9_likely 54 = .ok (.iload 4, 2) := by decide +kernel
theorem dX9_likely_56 : decode cX9_likely 56 = .ok (.bipush 10, 2) := by decide +kernel
theorem dX9_likely_58 : decode cX9_likely 58 = .ok (.imul, 1) := by decide +kernel
theorem dX9_likely_59 : decode cX9_likely 59 = .ok (.istore 4, 2) := by decide +kernel
theorem dX9_likely_61 : decode cX9_likely 61 = .ok (.iinc 5 1, 3) := by decide +kernel
theorem dX9_likely_64 : decode cX9_likely 64 = .ok (.goto (-22), 3) := by decide +kernel
theorem dX9_likely_67 : decode cX9_likely 67 = .ok (.iconst 0, 1) := by decide +kernel
theorem dX9_likely_68 : decode cX9_likely 68 = .ok (.istore 5, 2) := by decide +kernel
theorem dX9_likely_70 : decode cX9_likely 70 = .ok (.iload 5, 2) := by decide +kernel
theorem dX9_likely_72 : decode cX9_likely 72 = .ok (.iconst 1, 1) := by decide +kernel
theorem dX9_likely_73 : decode cX9_likely 73 = .ok (.aload_n 0, 1) := by decide +kernel
theorem dX9_likely_74 : decode cX9_likely 74 = .ok (.getfield 26, 3) := by decide +kernel
theorem dX9_likely_77 : decode cX9_likely 77 = .ok (.getfield 282, 3) := by decide +kernel
theorem dX9_likely_80 : decode cX9_likely 80 = .ok (.ishl, 1) := by decide +kernel
theorem dX9_likely_81 : decode cX9_likely 81 = .ok (.if_icmp .ge 64, 3) := by decide +kernel
theorem dX9_likely_84 : decode cX9_likely 84 = .ok (.aload_n 0, 1) := by decide +kernel
theorem dX9_likely_85 : decode cX9_likely 85 = .ok (.iload 5, 2) := by decide +kernel
theorem dX9_likely_87 : decode cX9_likely 87 = .ok (.iload_n 2, 1) := by decide +kernel
theorem dX9_likely_88 : decode cX9_likely 88 = .ok (.invokevirtual 383, 3) := by decide +kernel
theorem dX9_likely_91 : decode cX9_likely 91 = .ok (.istore 6, 2) := by decide +kernel
theorem dX9_likely_93 : decode cX9_likely 93 = .ok (.iload 6, 2) := by decide +kernel
theorem dX9_likely_95 : decode cX9_likely 95 = .ok (.ifCond .le 44, 3) := by decide +kernel
theorem dX9_likely_98 : decode cX9_likely 98 = .ok (.aload_n 0, 1) := by decide +kernel
theorem dX9_likely_99 : decode cX9_likely 99 = .ok (.iload 5, 2) := by decide +kernel
theorem dX9_likely_101 : decode cX9_likely 101 = .ok (.invokevirtual 386, 3) := by decide +kernel
theorem dX9_likely_104 : decode cX9_likely 104 = .ok (.aload_n 0, 1) := by decide +kernel
theorem dX9_likely_105 : decode cX9_likely 105 = .ok (.getfield 64, 3) := by decide +kernel
theorem dX9_likely_108 : decode cX9_likely 108 = .ok (.aload_n 0, 1) := by decide +kernel
theorem dX9_likely_109 : decode cX9_likely 109 = .ok (.getfield 33, 3) := by decide +kernel
theorem dX9_likely_112 : decode cX9_likely 112 = .ok (.aload_n 0, 1) := by decide +kernel
theorem dX9_likely_113 : decode cX9_likely 113 = .ok (.getfield 100, 3) := by decide +kernel
theorem dX9_likely_116 : decode cX9_likely 116 = .ok (.invokevirtual 157, 3) := by decide +kernel
theorem dX9_likely_119 : decode cX9_likely 119 = .ok (.iload_n 3, 1) := by decide +kernel
theorem dX9_likely_120 : decode cX9_likely 120 = .ok (.aload_n 0, 1) := by decide +kernel
theorem dX9_likely_121 : decode cX9_likely 121 = .ok (.getfield 64, 3) := by decide +kernel
theorem dX9_likely_124 : decode cX9_likely 124 = .ok (.iload_n 1, 1) := by decide +kernel
theorem dX9_likely_125 : decode cX9_likely 125 = .ok (.invokevirtual 161, 3) := by decide +kernel
theorem dX9_likely_128 : decode cX9_likely 128 = .ok (.ifCond .lt 8, 3) := by decide +kernel
theorem dX9_likely_131 : decode cX9_likely 131 = .ok (.iload 6, 2) := by decide +kernel
theorem dX9_likely_133 : decode cX9_likely 133 = .ok (.goto 4, 3) := by decide +kernel
theorem dX9_likely_136 : decode cX9_likely 136 = .ok (.iconst 0, 1) := by decide +kernel
theorem dX9_likely_137 : decode cX9_likely 137 = .ok (.iadd, 1) := by decide +kernel
theorem dX9_likely_138 : decode cX9_likely 138 = .ok (.istore_n 3, 1) := by decide +kernel
theorem dX9_likely_139 : decode cX9_likely 139 = .ok (.iinc 5 1, 3) := by decide +kernel
theorem dX9_likely_142 : decode cX9_likely 142 = .ok (.goto (-72), 3) := by decide +kernel
theorem dX9_likely_145 : decode cX9_likely 145 = .ok (.iload_n 3, 1) := by decide +kernel
theorem dX9_likely_146 : decode cX9_likely 146 = .ok (.iload 4, 2) := by decide +kernel
theorem dX9_likely_148 : decode cX9_likely 148 = .ok (.invokestatic 389, 3) := by decide +kernel
theorem dX9_likely_151 : decode cX9_likely 151 = .ok (.istore 5, 2) := by decide +kernel
theorem dX9_likely_153 : decode cX9_likely 153 = .ok (.iload 5, 2) := by decide +kernel
theorem dX9_likely_155 : decode cX9_likely 155 = .ok (.ifCond .le 21, 3) := by decide +kernel
theorem dX9_likely_158 : decode cX9_likely 158 = .ok (.aload_n 0, 1) := by decide +kernel
theorem dX9_likely_159 : decode cX9_likely 159 = .ok (.getfield 19, 3) := by decide +kernel
theorem dX9_likely_162 : decode cX9_likely 162 = .ok (.iload_n 3, 1) := by decide +kernel
theorem dX9_likely_163 : decode cX9_likely 163 = .ok (.iload 5, 2) := by decide +kernel
theorem dX9_likely_165 : decode cX9_likely 165 = .ok (.idiv, 1) := by decide +kernel
theorem dX9_likely_166 : decode cX9_likely 166 = .ok (.i2l, 1) := by decide +kernel
theorem dX9_likely_167 : decode cX9_likely 167 = .ok (.iload 4, 2) := by decide +kernel
theorem dX9_likely_169 : decode cX9_likely 169 = .ok (.iload 5, 2) := by decide +kernel
theorem dX9_likely_171 : decode cX9_likely 171 = .ok (.idiv, 1) := by decide +kernel
theorem dX9_likely_172 : decode cX9_likely 172 = .ok (.i2l, 1) := by decide +kernel
theorem dX9_likely_173 : decode cX9_likely 173 = .ok (.invokevirtual 227, 3) := by decide +kernel
theorem dX9_likely_176 : decode cX9_likely 176 = .ok (.iconst 0, 1) := by decide +kernel
theorem dX9_likely_177 : decode cX9_likely 177 = .ok (.ireturn, 1) := by decide +kernel
theorem dX9_winningPull_0 : decode cX9_winningPull 0 = .ok (.iconst 1, 1) := by decide +kernel
theorem dX9_winningPull_1 : decode cX9_winningPull 1 = .ok (.istore_n 3, 1) := by decide +kernel
theorem dX9_winningPull_2 : decode cX9_winningPull 2 = .ok (.iload_n 3, 1) := by decide +kernel
theorem dX9_winningPull_3 : decode cX9_winningPull 3 = .ok (.iload_n 1, 1) := by decide +kernel
theorem dX9_winningPull_4 : decode cX9_winningPull 4 = .ok (.if_icmp .gt 46, 3) := by decide +kernel
theorem dX9_winningPull_7 : decode cX9_winningPull 7 = .ok (.iload_n 3, 1) := by decide +kernel
theorem dX9_winningPull_8 : decode cX9_winningPull 8 = .ok (.iload_n 2, 1) := by decide +kernel
theorem dX9_winningPull_9 : decode cX9_winningPull 9 = .ok (.if_icmp .le 10, 3) := by decide +kernel
theorem dX9_winningPull_12 : decode cX9_winningPull 12 = .ok (.iload_n 3, 1) := by decide +kernel
theorem dX9_winningPull_13 : decode cX9_winningPull 13 = .ok (.iconst 2, 1) := by decide +kernel
theorem dX9_winningPull_14 : decode cX9_winningPull 14 = .ok (.imul, 1) := by decide +kernel
theorem dX9_winningPull_15 : decode cX9_winningPull 15 = .ok (.iload_n 1, 1) := by decide +kernel
theorem dX9_winningPull_16 : decode cX9_winningPull 16 = .ok (.if_icmp .ne 7, 3) := by decide +kernel
theorem dX9_winningPull_19 : decode cX9_winningPull 19 = .ok (.iconst 1, 1) := by decide +kernel
theorem dX9_winningPull_20 : decode cX9_winningPull 20 = .ok (.goto 4, 3) := by decide +kernel
theorem dX9_winningPull_23 : decode cX9_winningPull 23 = .ok (.iconst 0, 1) := by decide +kernel
theorem dX9_winningPull_24 : decode cX9_winningPull 24 = .ok (.istore 4, 2) := by decide +kernel
theorem dX9_winningPull_26 : decode cX9_winningPull 26 = .ok (.iload 4, 2) := by decide +kernel
theorem dX9_winningPull_28 : decode cX9_winningPull 28 = .ok (.ifCond .eq 16, 3) := by decide +kernel
theorem dX9_winningPull_31 : decode cX9_winningPull 31 = .ok (.aload_n 0, 1) := by decide +kernel
theorem dX9_winningPull_32 : decode cX9_winningPull 32 = .ok (.getfield 92, 3) := by decide +kernel
theorem dX9_winningPull_35 : decode cX9_winningPull 35 = .ok (.iload_n 1, 1) := by decide +kernel
theorem dX9_winningPull_36 : decode cX9_winningPull 36 = .ok (.iload_n 3, 1) := by decide +kernel
theorem dX9_winningPull_37 : decode cX9_winningPull 37 = .ok (.isub, 1) := by decide +kernel
theorem dX9_winningPull_38 : decode cX9_winningPull 38 = .ok (.baload, 1) := by decide +kernel
theorem dX9_winningPull_39 : decode cX9_winningPull 39 = .ok (.ifCond .ne 5, 3) := by decide +kernel
theorem dX9_winningPull_42 : decode cX9_winningPull 42 = .ok (.iload_n 3, 1) := by decide +kernel
theorem dX9_winningPull_43 : decode cX9_winningPull 43 = .ok (.ireturn, 1) := by decide +kernel
theorem dX9_winningPull_44 : decode cX9_winningPull 44 = .ok (.iinc 3 1, 3) := by decide +kernel
theorem dX9_winningPull_47 : decode cX9_winningPull 47 = .ok (.goto (-45), 3) := by decide +kernel
theorem dX9_winningPull_50 : decode cX9_winningPull 50 = .ok (.iconst 0, 1) := by decide +kernel
theorem dX9_winningPull_51 : decode cX9_winningPull 51 = .ok (.ireturn, 1) := by decide +kernel
theorem dX9_pulls_0 : decode cX9_pulls 0 = .ok (.iload_n 1, 1) := by decide +kernel
theorem dX9_pulls_1 : decode cX9_pulls 1 = .ok (.ifCond .lt 20, 3) := by decide +kernel
theorem dX9_pulls_4 : decode cX9_pulls 4 = .ok (.iload_n 1, 1) := by decide +kernel
theorem dX9_pulls_5 : decode cX9_pulls 5 = .ok (.bipush 60, 2) := by decide +kernel
theorem dX9_pulls_7 : decode cX9_pulls 7 = .ok (.if_icmp .gt 14, 3) := by decide +kernel
theorem dX9_pulls_10 : decode cX9_pulls 10 = .ok (.iload_n 2, 1) := by decide +kernel
theorem dX9_pulls_11 : decode cX9_pulls 11 = .ok (.iconst 2, 1) := by decide +kernel
theorem dX9_pulls_12 : decode cX9_pulls 12 = .ok (.if_icmp .lt 9, 3) := by decide +kernel
theorem dX9_pulls_15 : decode cX9_pulls 15 = .ok (.iload_n 2, 1) := by decide +kernel
theorem dX9_pulls_16 : decode cX9_pulls 16 = .ok (.bipush 9, 2) := by decide +kernel
theorem dX9_pulls_18 : decode cX9_pulls 18 = .ok (.if_icmp .le 5, 3) := by decide +kernel
theorem dX9_pulls_21 : decode cX9_pulls 21 = .ok (.iconst (-1), 1) := by decide +kernel
theorem dX9_pulls_22 : decode cX9_pulls 22 = .ok (.ireturn, 1) := by decide +kernel
theorem dX9_pulls_23 : decode cX9_pulls 23 = .ok (.aload_n 0, 1) := by decide +kernel
theorem dX9_pulls_24 : decode cX9_pulls 24 = .ok (.getfield 92, 3) := by decide +kernel
theorem dX9_pulls_27 : decode cX9_pulls 27 = .ok (.iconst 0, 1) := by decide +kernel
theorem dX9_pulls_28 : decode cX9_pulls 28 = .ok (.iconst 1, 1) := by decide +kernel
theorem dX9_pulls_29 : decode cX9_pulls 29 = .ok (.bastore, 1) := by decide +kernel
theorem dX9_pulls_30 : decode cX9_pulls 30 = .ok (.iconst 1, 1) := by decide +kernel
theorem dX9_pulls_31 : decode cX9_pulls 31 = .ok (.istore_n 3, 1) := by decide +kernel
theorem dX9_pulls_32 : decode cX9_pulls 32 = .ok (.iload_n 3, 1) := by decide +kernel
theorem dX9_pulls_33 : decode cX9_pulls 33 = .ok (.iload_n 1, 1) := by decide +kernel
theorem dX9_pulls_34 : decode cX9_pulls 34 = .ok (.if_icmp .gt 29, 3) := by decide +kernel
theorem dX9_pulls_37 : decode cX9_pulls 37 = .ok (.aload_n 0, 1) := by decide +kernel
theorem dX9_pulls_38 : decode cX9_pulls 38 = .ok (.getfield 92, 3) := by decide +kernel
theorem dX9_pulls_41 : decode cX9_pulls 41 = .ok (.iload_n 3, 1) := by decide +kernel
theorem dX9_pulls_42 : decode cX9_pulls 42 = .ok (.aload_n 0, 1) := by decide +kernel
theorem dX9_pulls_43 : decode cX9_pulls 43 = .ok (.iload_n 3, 1) := by decide +kernel
theorem dX9_pulls_44 : decode cX9_pulls 44 = .ok (.iload_n 2, 1) := by decide +kernel
theorem dX9_pulls_45 : decode cX9_pulls 45 = .ok (.invokevirtual 392, 3) := by decide +kernel
theorem dX9_pulls_48 : decode cX9_pulls 48 = .ok (.ifCond .le 7, 3) := by decide +kernel
theorem dX9_pulls_51 : decode cX9_pulls 51 = .ok (.iconst 1, 1) := by decide +kernel
theorem dX9_pulls_52 : decode cX9_pulls 52 = .ok (.goto 4, 3) := by decide +kernel
theorem dX9_pulls_55 : decode cX9_pulls 55 = .ok (.iconst 0, 1) := by decide +kernel
theorem dX9_pulls_56 : decode cX9_pulls 56 = .ok (.bastore, 1) := by decide +kernel
theorem dX9_pulls_57 : decode cX9_pulls 57 = .ok (.iinc 3 1, 3) := by decide +kernel
theorem dX9_pulls_60 : decode cX9_pulls 60 = .ok (.goto (-28), 3) := by decide +kernel
theorem dX9_pulls_63 : decode cX9_pulls 63 = .ok (.aload_n 0, 1) := by decide +kernel
theorem dX9_pulls_64 : decode cX9_pulls 64 = .ok (.iload_n 1, 1) := by decide +kernel
theorem dX9_pulls_65 : decode cX9_pulls 65 = .ok (.iload_n 2, 1) := by decide +kernel
theorem dX9_pulls_66 : decode cX9_pulls 66 = .ok (.invokevirtual 392, 3) := by decide +kernel
theorem dX9_pulls_69 : decode cX9_pulls 69 = .ok (.ireturn, 1) := by decide +kernel
theorem dX9_law_0 : decode cX9_law 0 = .ok (.aload_n 0, 1) := by decide +kernel
theorem dX9_law_1 : decode cX9_law 1 = .ok (.getfield 104, 3) := by decide +kernel
theorem dX9_law_4 : decode cX9_law 4 = .ok (.invokevirtual 131, 3) := by decide +kernel
theorem dX9_law_7 : decode cX9_law 7 = .ok (.istore_n 1, 1) := by decide +kernel
theorem dX9_law_8 : decode cX9_law 8 = .ok (.aload_n 0, 1) := by decide +kernel
theorem dX9_law_9 : decode cX9_law 9 = .ok (.getfield 10, 3) := by decide +kernel
theorem dX9_law_12 : decode cX9_law 12 = .ok (.iconst 0, 1) := by decide +kernel
theorem dX9_law_13 : decode cX9_law 13 = .ok (.putfield 107, 3) := by decide +kernel
theorem dX9_law_16 : decode cX9_law 16 = .ok (.iload_n 1, 1) := by decide +kernel
theorem dX9_law_17 : decode cX9_law 17 = .ok (.ifCond .lt 9, 3) := by decide +kernel
theorem dX9_law_20 : decode cX9_law 20 = .ok (.sipush (-10000), 3) := by decide +kernel
theorem dX9_law_23 : decode cX9_law 23 = .ok (.iload_n 1, 1) := by decide +kernel
theorem dX9_law_24 : decode cX9_law 24 = .ok (.isub, 1) := by decide +kernel
theorem dX9_law_25 : decode cX9_law 25 = .ok (.ireturn, 1) := by decide +kernel
theorem dX9_law_26 : decode cX9_law 26 = .ok (.aload_n 0, 1) := by decide +kernel
theorem dX9_law_27 : decode cX9_law 27 = .ok (.getfield 64, 3) := by decide +kernel
theorem dX9_law_30 : decode cX9_law 30 = .ok (.aload_n 0, 1) := by decide +kernel
theorem dX9_law_31 : decode cX9_law 31 = .ok (.getfield 26, 3) := by decide +kernel
theorem dX9_law_34 : decode cX9_law 34 = .ok (.aload_n 0, 1) := by decide +kernel
theorem dX9_law_35 : decode cX9_law 35 = .ok (.getfield 100, 3) := by decide +kernel
theorem dX9_law_38 : decode cX9_law 38 = .ok (.invokevirtual 157, 3) := by decide +kernel
theorem dX9_law_41 : decode cX9_law 41 = .ok (.aload_n 0, 1) := by decide +kernel
theorem dX9_law_42 : decode cX9_law 42 = .ok (.getfield 64, 3) := by decide +kernel
theorem dX9_law_45 : decode cX9_law 45 = .ok (.getfield 236, 3) := by decide +kernel
theorem dX9_law_48 : decode cX9_law 48 = .ok (.istore_n 2, 1) := by decide +kernel
theorem dX9_law_49 : decode cX9_law 49 = .ok (.aload_n 0, 1) := by decide +kernel
theorem dX9_law_50 : decode cX9_law 50 = .ok (.getfield 33, 3) := by decide +kernel
theorem dX9_law_53 : decode cX9_law 53 = .ok (.aload_n 0, 1) := by decide +kernel
theorem dX9_law_54 : decode cX9_law 54 = .ok (.getfield 26, 3) := by decide +kernel
theorem dX9_law_57 : decode cX9_law 57 = .ok (.invokevirtual 190, 3) := by decide +kernel
theorem dX9_law_60 : decode cX9_law 60 = .ok (.aload_n 0, 1) := by decide +kernel
theorem dX9_law_61 : decode cX9_law 61 = .ok (.aload_n 0, 1) := by decide +kernel
theorem dX9_law_62 : decode cX9_law 62 = .ok (.getfield 33, 3) := by decide +kernel
theorem dX9_law_65 : decode cX9_law 65 = .ok (.aload_n 0, 1) := by decide +kernel
theorem dX9_law_66 : decode cX9_law 66 = .ok (.getfield 104, 3) := by decide +kernel
theorem dX9_law_69 : decode cX9_law 69 = .ok (.iconst 1, 1) := by decide +kernel
theorem dX9_law_70 : decode cX9_law 70 = .ok (.invokevirtual 182, 3) := by decide +kernel
theorem dX9_law_73 : decode cX9_law 73 = .ok (.istore_n 3, 1) := by decide +kernel
theorem dX9_law_74 : decode cX9_law 74 = .ok (.aload_n 0, 1) := by decide +kernel
theorem dX9_law_75 : decode cX9_law 75 = .ok (.getfield 19, 3) := by decide +kernel
theorem dX9_law_78 : decode cX9_law 78 = .ok (.iload_n 3, 1) := by decide +kernel
theorem dX9_law_79 : decode cX9_law 79 = .ok (.i2l, 1) := by decide +kernel
theorem dX9_law_80 : decode cX9_law 80 = .ok (.iload_n 2, 1) := by decide +kernel
theorem dX9_law_81 : decode cX9_law 81 = .ok (.i2l, 1) := by decide +kernel
theorem dX9_law_82 : decode cX9_law 82 = .ok (.invokevirtual 227, 3) := by decide +kernel
theorem dX9_law_85 : decode cX9_law 85 = .ok (.iconst 0, 1) := by decide +kernel
theorem dX9_law_86 : decode cX9_law 86 = .ok (.istore 4, 2) := by decide +kernel
theorem dX9_law_88 : decode cX9_law 88 = .ok (.iload 4, 2) := by decide +kernel
theorem dX9_law_90 : decode cX9_law 90 = .ok (.aload_n 0, 1) := by decide +kernel
theorem dX9_law_91 : decode cX9_law 91 = .ok (.getfield 33, 3) := by decide +kernel
theorem dX9_law_94 : decode cX9_law 94 = .ok (.getfield 282, 3) := by decide +kernel
theorem dX9_law_97 : decode cX9_law 97 = .ok (.if_icmp .ge 27, 3) := by decide +kernel
theorem dX9_law_100 : decode cX9_law 100 = .ok (.aload_n 0, 1) := by decide +kernel
theorem dX9_law_101 : decode cX9_law 101 = .ok (.getfield 19, 3) := by decide +kernel
theorem dX9_law_104 : decode cX9_law 104 = .ok (.aload_n 0, 1) := by decide +kernel
theorem dX9_law_105 : decode cX9_law 105 = .ok (.getfield 33, 3) := by decide +kernel
theorem dX9_law_108 : decode cX9_law 108 = .ok (.getfield 350, 3) := by decide +kernel
theorem dX9_law_111 : decode cX9_law 111 = .ok (.iload 4, 2) := by decide +kernel
theorem dX9_law_113 : decode cX9_law 113 = .ok (.iaload, 1) := by decide +kernel
theorem dX9_law_114 : decode cX9_law 114 = .ok (.i2l, 1) := by decide +kernel
theorem dX9_law_115 : decode cX9_law 115 = .ok (.invokevirtual 242, 3) := by decide +kernel
theorem dX9_law_118 : decode cX9_law 118 = .ok (.iinc 4 1, 3) := by decide +kernel
theorem dX9_law_121 : decode cX9_law 121 = .ok (.goto (-33), 3) := by decide +kernel
theorem dX9_law_124 : decode cX9_law 124 = .ok (.iload_n 3, 1) := by decide +kernel
theorem dX9_law_125 : decode cX9_law 125 = .ok (.iload_n 2, 1) := by decide +kernel
theorem dX9_law_126 : decode cX9_law 126 = .ok (.isub, 1) := by decide +kernel
theorem dX9_law_127 : decode cX9_law 127 = .ok (.ireturn, 1) := by decide +kernel
theorem dX9_spurtGain_0 : decode cX9_spurtGain 0 = .ok (.iload_n 0, 1) := by decide +kernel
theorem dX9_spurtGain_1 : decode cX9_spurtGain 1 = .ok (.iload_n 1, 1) := by decide +kernel
theorem dX9_spurtGain_2 : decode cX9_spurtGain 2 = .ok (.if_icmp .le 7, 3) := by decide +kernel
theorem dX9_spurtGain_5 : decode cX9_spurtGain 5 = .ok (.iload_n 2, 1) := by decide +kernel
theorem dX9_spurtGain_6 : decode cX9_spurtGain 6 = .ok (.goto 4, 3) := by decide +kernel
theorem dX9_spurtGain_9 : decode cX9_spurtGain 9 = .ok (.iconst 0, 1) := by decide +kernel
theorem dX9_spurtGain_10 : decode cX9_spurtGain 10 = .ok (.iload_n 0, 1) := by decide +kernel
theorem dX9_spurtGain_11 : decode cX9_spurtGain 11 = .ok (.isub, 1) := by decide +kernel
theorem dX9_spurtGain_12 : decode cX9_spurtGain 12 = .ok (.iload_n 0, 1) := by decide +kernel
theorem dX9_spurtGain_13 : decode cX9_spurtGain 13 = .ok (.iload_n 1, 1) := by decide +kernel
theorem dX9_spurtGain_14 : decode cX9_spurtGain 14 = .ok (.if_icmp .ge 7, 3) := by decide +kernel
theorem dX9_spurtGain_17 : decode cX9_spurtGain 17 = .ok (.iconst 1, 1) := by decide +kernel
theorem dX9_spurtGain_18 : decode cX9_spurtGain 18 = .ok (.goto 4, 3) := by decide +kernel
theorem dX9_spurtGain_21 : decode cX9_spurtGain 21 = .ok (.iconst 0, 1) := by decide +kernel
theorem dX9_spurtGain_22 : decode cX9_spurtGain 22 = .ok (.isub, 1) := by decide +kernel
theorem dX9_spurtGain_23 : decode cX9_spurtGain 23 = .ok (.ireturn, 1) := by decide +kernel
theorem dX9_isBestSpurt_0 : decode cX9_isBestSpurt 0 = .ok (.iload_n 0, 1) := by decide +kernel
theorem dX9_isBestSpurt_1 : decode cX9_isBestSpurt 1 = .ok (.iload_n 1, 1) := by decide +kernel
theorem dX9_isBestSpurt_2 : decode cX9_isBestSpurt 2 = .ok (.iload_n 2, 1) := by decide +kernel
theorem dX9_isBestSpurt_3 : decode cX9_isBestSpurt 3 = .ok (.invokestatic 435, 3) := by decide +kernel
theorem dX9_isBestSpurt_6 : decode cX9_isBestSpurt 6 = .ok (.istore_n 3, 1) := by decide +kernel
theorem dX9_isBestSpurt_7 : decode cX9_isBestSpurt 7 = .ok (.iconst 0, 1) := by decide +kernel
theorem dX9_isBestSpurt_8 : decode cX9_isBestSpurt 8 = .ok (.istore 4, 2) := by decide +kernel
theorem dX9_isBestSpurt_10 : decode cX9_isBestSpurt 10 = .ok (.iload 4, 2) := by decide +kernel
theorem dX9_isBestSpurt_12 : decode cX9_isBestSpurt 12 = .ok (.bipush 9, 2) := by decide +kernel
theorem dX9_isBestSpurt_14 : decode cX9_isBestSpurt 14 = .ok (.if_icmp .gt 22, 3) := by decide +kernel
theorem dX9_isBestSpurt_17 : decode cX9_isBestSpurt 17 = .ok (.iload 4, 2) := by decide +kernel
theorem dX9_isBestSpurt_19 : decode cX9_isBestSpurt 19 = .ok (.iload_n 1, 1) := by decide +kernel
theorem dX9_isBestSpurt_20 : decode cX9_isBestSpurt 20 = .ok (.iload_n 2, 1) := by decide +kernel
theorem dX9_isBestSpurt_21 : decode cX9_isBestSpurt 21 = .ok (.invokestatic 435, 3) := by decide +kernel
theorem dX9_isBestSpurt_24 : decode cX9_isBestSpurt 24 = .ok (.iload_n 3, 1) := by decide +kernel
theorem dX9_isBestSpurt_25 : decode cX9_isBestSpurt 25 = .ok (.if_icmp .le 5, 3) := by decide +kernel
theorem dX9_isBestSpurt_28 : decode cX9_isBestSpurt 28 = .ok (.iconst 0, 1) := by decide +kernel
theorem dX9_isBestSpurt_29 : decode cX9_isBestSpurt 29 = .ok (.ireturn, 1) := by decide +kernel
theorem dX9_isBestSpurt_30 : decode cX9_isBestSpurt 30 = .ok (.iinc 4 1, 3) := by decide +kernel
theorem dX9_isBestSpurt_33 : decode cX9_isBestSpurt 33 = .ok (.goto (-23), 3) := by decide +kernel
theorem dX9_isBestSpurt_36 : decode cX9_isBestSpurt 36 = .ok (.iconst 1, 1) := by decide +kernel
theorem dX9_isBestSpurt_37 : decode cX9_isBestSpurt 37 = .ok (.ireturn, 1) := by decide +kernel
theorem dX9_crews_0 : decode cX9_crews 0 = .ok (.iload_n 1, 1) := by decide +kernel
theorem dX9_crews_1 : decode cX9_crews 1 = .ok (.ifCond .lt 9, 3) := by decide +kernel
theorem dX9_crews_4 : decode cX9_crews 4 = .ok (.iload_n 1, 1) := by decide +kernel
theorem dX9_crews_5 : decode cX9_crews 5 = .ok (.bipush 20, 2) := by decide +kernel
theorem dX9_crews_7 : decode cX9_crews 7 = .ok (.if_icmp .le 5, 3) := by decide +kernel
theorem dX9_crews_10 : decode cX9_crews 10 = .ok (.iconst (-1), 1) := by decide +kernel
theorem dX9_crews_11 : decode cX9_crews 11 = .ok (.ireturn, 1) := by decide +kernel
theorem dX9_crews_12 : decode cX9_crews 12 = .ok (.aload_n 0, 1) := by decide +kernel
theorem dX9_crews_13 : decode cX9_crews 13 = .ok (.getfield 19, 3) := by decide +kernel
theorem dX9_crews_16 : decode cX9_crews 16 = .ok (.iconst 0, 1) := by decide +kernel
theorem dX9_crews_17 : decode cX9_crews 17 = .ok (.putfield 235, 3) := by decide +kernel
theorem dX9_crews_20 : decode cX9_crews 20 = .ok (.iconst 0, 1) := by decide +kernel
theorem dX9_crews_21 : decode cX9_crews 21 = .ok (.istore_n 2, 1) := by decide +kernel
theorem dX9_crews_22 : decode cX9_crews 22 = .ok (.iconst 0, 1) := by decide +kernel
theorem dX9_crews_23 : decode cX9_crews 23 = .ok (.istore_n 3, 1) := by decide +kernel
theorem dX9_crews_24 : decode cX9_crews 24 = .ok (.iload_n 3, 1) := by decide +kernel
theorem dX9_crews_25 : decode cX9_crews 25 = .ok (.bipush 9, 2) := by decide +kernel
theorem dX9_crews_27 : decode cX9_crews 27 = .ok (.if_icmp .gt 64, 3) := by decide +kernel
theorem dX9_crews_30 : decode cX9_crews 30 = .ok (.iconst 0, 1) := by decide +kernel
theorem dX9_crews_31 : decode cX9_crews 31 = .ok (.istore 4, 2) := by decide +kernel
theorem dX9_crews_33 : decode cX9_crews 33 = .ok (.iload 4, 2) := by decide +kernel
theorem dX9_crews_35 : decode cX9_crews 35 = .ok (.bipush 9, 2) := by decide +kernel
theorem dX9_crews_37 : decode cX9_crews 37 = .ok (.if_icmp .gt 48, 3) := by decide +kernel
theorem dX9_crews_40 : decode cX9_crews 40 = .ok (.iload_n 3, 1) := by decide +kernel
theorem dX9_crews_41 : decode cX9_crews 41 = .ok (.iload 4, 2) := by decide +kernel
theorem dX9_crews_43 : decode cX9_crews 43 = .ok (.iload_n 1, 1) := by decide +kernel
theorem dX9_crews_44 : decode cX9_crews 44 = .ok (.invokestatic 395, 3) := by decide +kernel
theorem dX9_crews_47 : decode cX9_crews 47 = .ok (.ifCond .eq 32, 3) := by decide +kernel
theorem dX9_crews_50 : decode cX9_crews 50 = .ok (.iload 4, 2) := by decide +kernel
theorem dX9_crews_52 : decode cX9_crews 52 = .ok (.iload_n 3, 1) := by decide +kernel
theorem dX9_crews_53 : decode cX9_crews 53 = .ok (.iload_n 1, 1) := by decide +kernel
theorem dX9_crews_54 : decode cX9_crews 54 = .ok (.invokestatic 395, 3) := by decide +kernel
theorem dX9_crews_57 : decode cX9_crews 57 = .ok (.ifCond .eq 22, 3) := by decide +kernel
theorem dX9_crews_60 : decode cX9_crews 60 = .ok (.iload_n 2, 1) := by decide +kernel
theorem dX9_crews_61 : decode cX9_crews 61 = .ok (.ifCond .ne 15, 3) := by decide +kernel
theorem dX9_crews_64 : decode cX9_crews 64 = .ok (.aload_n 0, 1) := by decide +kernel
theorem dX9_crews_65 : decode cX9_crews 65 = .ok (.getfield 19, 3) := by decide +kernel
theorem dX9_crews_68 : decode cX9_crews 68 = .ok (.iload_n 3, 1) := by decide +kernel
theorem dX9_crews_69 : decode cX9_crews 69 = .ok (.i2l, 1) := by decide +kernel
theorem dX9_crews_70 : decode cX9_crews 70 = .ok (.iload 4, 2) := by decide +kernel
theorem dX9_crews_72 : decode cX9_crews 72 = .ok (.i2l, 1) := by decide +kernel
theorem dX9_crews_73 : decode cX9_crews 73 = .ok (.invokevirtual 227, 3) := by decide +kernel
theorem dX9_crews_76 : decode cX9_crews 76 = .ok (.iinc 2 1, 3) := by decide +kernel
theorem dX9_crews_79 : decode cX9_crews 79 = .ok (.iinc 4 1, 3) := by decide +kernel
theorem dX9_crews_82 : decode cX9_crews 82 = .ok (.goto (-49), 3) := by decide +kernel
theorem dX9_crews_85 : decode cX9_crews 85 = .ok (.iinc 3 1, 3) := by decide +kernel
theorem dX9_crews_88 : decode cX9_crews 88 = .ok (.goto (-64), 3) := by decide +kernel
theorem dX9_crews_91 : decode cX9_crews 91 = .ok (.iload_n 2, 1) := by decide +kernel
theorem dX9_crews_92 : decode cX9_crews 92 = .ok (.ireturn, 1) := by decide +kernel
theorem dX9_drawnTurn_0 : decode cX9_drawnTurn 0 = .ok (.aload_n 0, 1) := by decide +kernel
theorem dX9_drawnTurn_1 : decode cX9_drawnTurn 1 = .ok (.getfield 78, 3) := by decide +kernel
theorem dX9_drawnTurn_4 : decode cX9_drawnTurn 4 = .ok (.iconst 4, 1) := by decide +kernel
theorem dX9_drawnTurn_5 : decode cX9_drawnTurn 5 = .ok (.invokevirtual 438, 3) := by decide +kernel
theorem dX9_drawnTurn_8 : decode cX9_drawnTurn 8 = .ok (.istore_n 1, 1) := by decide +kernel
theorem dX9_drawnTurn_9 : decode cX9_drawnTurn 9 = .ok (.iload_n 1, 1) := by decide +kernel
theorem dX9_drawnTurn_10 : decode cX9_drawnTurn 10 = .ok (.iconst 2, 1) := by decide +kernel
theorem dX9_drawnTurn_11 : decode cX9_drawnTurn 11 = .ok (.if_icmp .ge 17, 3) := by decide +kernel
theorem dX9_drawnTurn_14 : decode cX9_drawnTurn 14 = .ok (.aload_n 0, 1) := by decide +kernel
theorem dX9_drawnTurn_15 : decode cX9_drawnTurn 15 = .ok (.aload_n 0, 1) := by decide +kernel
theorem dX9_drawnTurn_16 : decode cX9_drawnTurn 16 = .ok (.getfield 33, 3) := by decide +kernel
theorem dX9_drawnTurn_19 : decode cX9_drawnTurn 19 = .ok (.aload_n 0, 1) := by decide +kernel
theorem dX9_drawnTurn_20 : decode cX9_drawnTurn 20 = .ok (.getfield 100, 3) := by decide +kernel
theorem dX9_drawnTurn_23 : decode cX9_drawnTurn 23 = .ok (.iconst 1, 1) := by decide +kernel
theorem dX9_drawnTurn_24 : decode cX9_drawnTurn 24 = .ok (.invokevirtual 182, 3) := by decide +kernel
theorem dX9_drawnTurn_27 : decode cX9_drawnTurn 27 = .ok (.ireturn, 1) := by decide +kernel
theorem dX9_drawnTurn_28 : decode cX9_drawnTurn 28 = .ok (.aload_n 0, 1) := by decide +kernel
theorem dX9_drawnTurn_29 : decode cX9_drawnTurn 29 = .ok (.getfield 33, 3) := by decide +kernel
theorem dX9_drawnTurn_32 : decode cX9_drawnTurn 32 = .ok (.getfield 282, 3) := by decide +kernel
theorem dX9_drawnTurn_35 : decode cX9_drawnTurn 35 = .ok (.ifCond .ne 5, 3) := by decide +kernel
theorem dX9_drawnTurn_38 : decode cX9_drawnTurn 38 = .ok (.iconst 0, 1) := by decide +kernel
theorem dX9_drawnTurn_39 : decode cX9_drawnTurn 39 = .ok (.ireturn, 1) := by decide +kernel
theorem dX9_drawnTurn_40 : decode cX9_drawnTurn 40 = .ok (.aload_n 0, 1) := by decide +kernel
theorem dX9_drawnTurn_41 : decode cX9_drawnTurn 41 = .ok (.getfield 78, 3) := by decide +kernel
theorem dX9_drawnTurn_44 : decode cX9_drawnTurn 44 = .ok (.aload_n 0, 1) := by decide +kernel
theorem dX9_drawnTurn_45 : decode cX9_drawnTurn 45 = .ok (.getfield 33, 3) := by decide +kernel
theorem dX9_drawnTurn_48 : decode cX9_drawnTurn 48 = .ok (.getfield 282, 3) := by decide +kernel
theorem dX9_drawnTurn_51 : decode cX9_drawnTurn 51 = .ok (.invokevirtual 438, 3) := by decide +kernel
theorem dX9_drawnTurn_54 : decode cX9_drawnTurn 54 = .ok (.istore_n 2, 1) := by decide +kernel
theorem dX9_drawnTurn_55 : decode cX9_drawnTurn 55 = .ok (.iload_n 1, 1) := by decide +kernel
theorem dX9_drawnTurn_56 : decode cX9_drawnTurn 56 = .ok (.iconst 2, 1) := by decide +kernel
theorem dX9_drawnTurn_57 : decode cX9_drawnTurn 57 = .ok (.if_icmp .ne 26, 3) := by decide +kernel
theorem dX9_drawnTurn_60 : decode cX9_drawnTurn 60 = .ok (.aload_n 0, 1) := by decide +kernel
theorem dX9_drawnTurn_61 : decode cX9_drawnTurn 61 = .ok (.getfield 33, 3) := by decide +kernel
theorem dX9_drawnTurn_64 : decode cX9_drawnTurn 64 = .ok (.iload_n 2, 1) := by decide +kernel
theorem dX9_drawnTurn_65 : decode cX9_drawnTurn 65 = .ok (.aload_n 0, 1) := by decide +kernel
theorem dX9_drawnTurn_66 : decode cX9_drawnTurn 66 = .ok (.getfield 78, 3) := by decide +kernel
theorem dX9_drawnTurn_69 : decode cX9_drawnTurn 69 = .ok (.bipush 9, 2) := by decide +kernel
theorem dX9_drawnTurn_71 : decode cX9_drawnTurn 71 = .ok (.invokevirtual 438, 3) := by decide +kernel
theorem dX9_drawnTurn_74 : decode cX9_drawnTurn 74 = .ok (.iconst 1, 1) := by decide +kernel
theorem dX9_drawnTurn_75 : decode cX9_drawnTurn 75 = .ok (.iadd, 1) := by decide +kernel
theorem dX9_drawnTurn_76 : decode cX9_drawnTurn 76 = .ok (.invokevirtual 202, 3) := by decide +kernel
theorem dX9_drawnTurn_79 : decode cX9_drawnTurn 79 = .ok (.pop, 1) := by decide +kernel
theorem dX9_drawnTurn_80 : decode cX9_drawnTurn 80 = .ok (.goto 12, 3) := by decide +kernel
theorem dX9_drawnTurn_83 : decode cX9_drawnTurn 83 = .ok (.aload_n 0, 1) := by decide +kernel
theorem dX9_drawnTurn_84 : decode cX9_drawnTurn 84 = .ok (.getfield 33, 3) := by decide +kernel
theorem dX9_drawnTurn_87 : decode cX9_drawnTurn 87 = .ok (.iload_n 2, 1) := by decide +kernel
theorem dX9_drawnTurn_88 : decode cX9_drawnTurn 88 = .ok (.invokevirtual 193, 3) := by decide +kernel
theorem dX9_drawnTurn_91 : decode cX9_drawnTurn 91 = .ok (.pop, 1) := by decide +kernel
theorem dX9_drawnTurn_92 : decode cX9_drawnTurn 92 = .ok (.iconst 0, 1) := by decide +kernel
theorem dX9_drawnTurn_93 : decode cX9_drawnTurn 93 = .ok (.ireturn, 1) := by decide +kernel
theorem dX9_years_0 : decode cX9_years 0 = .ok (.iload_n 2, 1) := by decide +kernel
theorem dX9_years_1 : decode cX9_years 1 = .ok (.iconst 1, 1) := by decide +kernel
theorem dX9_years_2 : decode cX9_years 2 = .ok (.if_icmp .lt 9, 3) := by decide +kernel
theorem dX9_years_5 : decode cX9_years 5 = .ok (.iload_n 2, 1) := by decide +kernel
theorem dX9_years_6 : decode cX9_years 6 = .ok (.bipush 60, 2) := by decide +kernel
theorem dX9_years_8 : decode cX9_years 8 = .ok (.if_icmp .le 6, 3) := by decide +kernel
theorem dX9_years_11 : decode cX9_years 11 = .ok (.bipush (-2), 2) := by decide +kernel
theorem dX9_years_13 : decode cX9_years 13 = .ok (.ireturn, 1) := by decide +kernel
theorem dX9_years_14 : decode cX9_years 14 = .ok (.aload_n 0, 1) := by decide +kernel
theorem dX9_years_15 : decode cX9_years 15 = .ok (.getfield 33, 3) := by decide +kernel
theorem dX9_years_18 : decode cX9_years 18 = .ok (.aload_n 0, 1) := by decide +kernel
theorem dX9_years_19 : decode cX9_years 19 = .ok (.getfield 26, 3) := by decide +kernel
theorem dX9_years_22 : decode cX9_years 22 = .ok (.invokevirtual 190, 3) := by decide +kernel
theorem dX9_years_25 : decode cX9_years 25 = .ok (.aload_n 0, 1) := by decide +kernel
theorem dX9_years_26 : decode cX9_years 26 = .ok (.getfield 78, 3) := by decide +kernel
theorem dX9_years_29 : decode cX9_years 29 = .ok (.iload_n 1, 1) := by decide +kernel
theorem dX9_years_30 : decode cX9_years 30 = .ok (.putfield 399, 3) := by decide +kernel
theorem dX9_years_33 : decode cX9_years 33 = .ok (.iconst 0, 1) := by decide +kernel
theorem dX9_years_34 : decode cX9_years 34 = .ok (.istore_n 3, 1) := by decide +kernel
theorem dX9_years_35 : decode cX9_years 35 = .ok (.iconst 0, 1) := by decide +kernel
theorem dX9_years_36 : decode cX9_years 36 = .ok (.istore 4, 2) := by decide +kernel
theorem dX9_years_38 : decode cX9_years 38 = .ok (.iload 4, 2) := by decide +kernel
theorem dX9_years_40 : decode cX9_years 40 = .ok (.iload_n 2, 1) := by decide +kernel
theorem dX9_years_41 : decode cX9_years 41 = .ok (.if_icmp .ge 16, 3) := by decide +kernel
theorem dX9_years_44 : decode cX9_years 44 = .ok (.iload_n 3, 1) := by decide +kernel
theorem dX9_years_45 : decode cX9_years 45 = .ok (.aload_n 0, 1) := by decide +kernel
theorem dX9_years_46 : decode cX9_years 46 = .ok (.invokevirtual 402, 3) := by decide +kernel
theorem dX9_years_49 : decode cX9_years 49 = .ok (.iadd, 1) := by decide +kernel
theorem dX9_years_50 : decode cX9_years 50 = .ok (.istore_n 3, 1) := by decide +kernel
theorem dX9_years_51 : decode cX9_years 51 = .ok (.iinc 4 1, 3) := by decide +kernel
theorem dX9_years_54 : decode cX9_years 54 = .ok (.goto (-16), 3) := by decide +kernel
theorem dX9_years_57 : decode cX9_years 57 = .ok (.aload_n 0, 1) := by decide +kernel
theorem dX9_years_58 : decode cX9_years 58 = .ok (.getfield 19, 3) := by decide +kernel
theorem dX9_years_61 : decode cX9_years 61 = .ok (.iload_n 3, 1) := by decide +kernel
theorem dX9_years_62 : decode cX9_years 62 = .ok (.i2l, 1) := by decide +kernel
theorem dX9_years_63 : decode cX9_years 63 = .ok (.aload_n 0, 1) := by decide +kernel
theorem dX9_years_64 : decode cX9_years 64 = .ok (.getfield 33, 3) := by decide +kernel
theorem dX9_years_67 : decode cX9_years 67 = .ok (.invokevirtual 405, 3) := by decide +kernel
theorem dX9_years_70 : decode cX9_years 70 = .ok (.i2l, 1) := by decide +kernel
theorem dX9_years_71 : decode cX9_years 71 = .ok (.invokevirtual 227, 3) := by decide +kernel
theorem dX9_years_74 : decode cX9_years 74 = .ok (.aload_n 0, 1) := by decide +kernel
theorem dX9_years_75 : decode cX9_years 75 = .ok (.getfield 33, 3) := by decide +kernel
theorem dX9_years_78 : decode cX9_years 78 = .ok (.iconst 0, 1) := by decide +kernel
theorem dX9_years_79 : decode cX9_years 79 = .ok (.invokevirtual 154, 3) := by decide +kernel
theorem dX9_years_82 : decode cX9_years 82 = .ok (.ireturn, 1) := by decide +kernel
theorem dX9_keep_0 : decode cX9_keep 0 = .ok (.iload_n 1, 1) := by decide +kernel
theorem dX9_keep_1 : decode cX9_keep 1 = .ok (.ifCond .lt 8, 3) := by decide +kernel
theorem dX9_keep_4 : decode cX9_keep 4 = .ok (.iload_n 1, 1) := by decide +kernel
theorem dX9_keep_5 : decode cX9_keep 5 = .ok (.iconst 3, 1) := by decide +kernel
theorem dX9_keep_6 : decode cX9_keep 6 = .ok (.if_icmp .lt 5, 3) := by decide +kernel
theorem dX9_keep_9 : decode cX9_keep 9 = .ok (.iconst 0, 1) := by decide +kernel
theorem dX9_keep_10 : decode cX9_keep 10 = .ok (.ireturn, 1) := by decide +kernel
theorem dX9_keep_11 : decode cX9_keep 11 = .ok (.aload_n 0, 1) := by decide +kernel
theorem dX9_keep_12 : decode cX9_keep 12 = .ok (.getfield 46, 3) := by decide +kernel
theorem dX9_keep_15 : decode cX9_keep 15 = .ok (.iload_n 1, 1) := by decide +kernel
theorem dX9_keep_16 : decode cX9_keep 16 = .ok (.aaload, 1) := by decide +kernel
theorem dX9_keep_17 : decode cX9_keep 17 = .ok (.aload_n 0, 1) := by decide +kernel
theorem dX9_keep_18 : decode cX9_keep 18 = .ok (.getfield 26, 3) := by decide +kernel
theorem dX9_keep_21 : decode cX9_keep 21 = .ok (.invokevirtual 190, 3) := by decide +kernel
theorem dX9_keep_24 : decode cX9_keep 24 = .ok (.aload_n 0, 1) := by decide +kernel
theorem dX9_keep_25 : decode cX9_keep 25 = .ok (.getfield 50, 3) := by decide +kernel
theorem dX9_keep_28 : decode cX9_keep 28 = .ok (.iload_n 1, 1) := by decide +kernel
theorem dX9_keep_29 : decode cX9_keep 29 = .ok (.iconst 1, 1) := by decide +kernel
theorem dX9_keep_30 : decode cX9_keep 30 = .ok (.bastore, 1) := by decide +kernel
theorem dX9_keep_31 : decode cX9_keep 31 = .ok (.iconst 1, 1) := by decide +kernel
theorem dX9_keep_32 : decode cX9_keep 32 = .ok (.ireturn, 1) := by decide +kernel
theorem dX9_again_0 : decode cX9_again 0 = .ok (.iload_n 1, 1) := by decide +kernel
theorem dX9_again_1 : decode cX9_again 1 = .ok (.ifCond .lt 17, 3) := by decide +kernel
theorem dX9_again_4 : decode cX9_again 4 = .ok (.iload_n 1, 1) := by decide +kernel
theorem dX9_again_5 : decode cX9_again 5 = .ok (.iconst 3, 1) := by decide +kernel
theorem dX9_again_6 : decode cX9_again 6 = .ok (.if_icmp .ge 12, 3) := by decide +kernel
theorem dX9_again_9 : decode cX9_again 9 = .ok (.aload_n 0, 1) := by decide +kernel
theorem dX9_again_10 : decode cX9_again 10 = .ok (.getfield 50, 3) := by decide +kernel
theorem dX9_again_13 : decode cX9_again 13 = .ok (.iload_n 1, 1) := by decide +kernel
theorem dX9_again_14 : decode cX9_again 14 = .ok (.baload, 1) := by decide +kernel
theorem dX9_again_15 : decode cX9_again 15 = .ok (.ifCond .ne 5, 3) := by decide +kernel
theorem dX9_again_18 : decode cX9_again 18 = .ok (.iconst 0, 1) := by decide +kernel
theorem dX9_again_19 : decode cX9_again 19 = .ok (.ireturn, 1) := by decide +kernel
theorem dX9_again_20 : decode cX9_again 20 = .ok (.aload_n 0, 1) := by decide +kernel
theorem dX9_again_21 : decode cX9_again 21 = .ok (.getfield 26, 3) := by decide +kernel
theorem dX9_again_24 : decode cX9_again 24 = .ok (.aload_n 0, 1) := by decide +kernel
theorem dX9_again_25 : decode cX9_again 25 = .ok (.getfield 46, 3) := by decide +kernel
theorem dX9_again_28 : decode cX9_again 28 = .ok (.iload_n 1, 1) := by decide +kernel
theorem dX9_again_29 : decode cX9_again 29 = .ok (.aaload, 1) := by decide +kernel
theorem dX9_again_30 : decode cX9_again 30 = .ok (.invokevirtual 190, 3) := by decide +kernel
theorem dX9_again_33 : decode cX9_again 33 = .ok (.aload_n 0, 1) := by decide +kernel
theorem dX9_again_34 : decode cX9_again 34 = .ok (.getfield 42, 3) := by decide +kernel
theorem dX9_again_37 : decode cX9_again 37 = .ok (.iconst 0, 1) := by decide +kernel
theorem dX9_again_38 : decode cX9_again 38 = .ok (.putfield 127, 3) := by decide +kernel
theorem dX9_again_41 : decode cX9_again 41 = .ok (.iconst 1, 1) := by decide +kernel
theorem dX9_again_42 : decode cX9_again 42 = .ok (.ireturn, 1) := by decide +kernel
theorem dX9_count_0 : decode cX9_count 0 = .ok (.iload_n 1, 1) := by decide +kernel
theorem dX9_count_1 : decode cX9_count 1 = .ok (.tableswitch 147 0 10 #[59, 67, 75, 83, 91, 99, 107, 115, 123, 131, 139], 59) := by decide +kernel
theorem dX9_count_60 : decode cX9_count 60 = .ok (.aload_n 0, 1) := by decide +kernel
theorem dX9_count_61 : decode cX9_count 61 = .ok (.getfield 26, 3) := by decide +kernel
theorem dX9_count_64 : decode cX9_count 64 = .ok (.getfield 282, 3) := by decide +kernel
theorem dX9_count_67 : decode cX9_count 67 = .ok (.ireturn, 1) := by decide +kernel
theorem dX9_count_68 : decode cX9_count 68 = .ok (.aload_n 0, 1) := by decide +kernel
theorem dX9_count_69 : decode cX9_count 69 = .ok (.getfield 26, 3) := by decide +kernel
theorem dX9_count_72 : decode cX9_count 72 = .ok (.getfield 347, 3) := by decide +kernel
theorem dX9_count_75 : decode cX9_count 75 = .ok (.ireturn, 1) := by decide +kernel
theorem dX9_count_76 : decode cX9_count 76 = .ok (.aload_n 0, 1) := by decide +kernel
theorem dX9_count_77 : decode cX9_count 77 = .ok (.getfield 26, 3) := by decide +kernel
theorem dX9_count_80 : decode cX9_count 80 = .ok (.getfield 273, 3) := by decide +kernel
theorem dX9_count_83 : decode cX9_count 83 = .ok (.ireturn, 1) := by decide +kernel
theorem dX9_count_84 : decode cX9_count 84 = .ok (.aload_n 0, 1) := by decide +kernel
theorem dX9_count_85 : decode cX9_count 85 = .ok (.getfield 26, 3) := by decide +kernel
theorem dX9_count_88 : decode cX9_count 88 = .ok (.getfield 224, 3) := by decide +kernel
theorem dX9_count_91 : decode cX9_count 91 = .ok (.ireturn, 1) := by decide +kernel
theorem dX9_count_92 : decode cX9_count 92 = .ok (.aload_n 0, 1) := by decide +kernel
theorem dX9_count_93 : decode cX9_count 93 = .ok (.getfield 26, 3) := by decide +kernel
theorem dX9_count_96 : decode cX9_count 96 = .ok (.getfield 408, 3) := by decide +kernel
theorem dX9_count_99 : decode cX9_count 99 = .ok (.ireturn, 1) := by decide +kernel
theorem dX9_count_100 : decode cX9_count 100 = .ok (.aload_n 0, 1) := by decide +kernel
theorem dX9_count_101 : decode cX9_count 101 = .ok (.getfield 26, 3) := by decide +kernel
theorem dX9_count_104 : decode cX9_count 104 = .ok (.invokevirtual 175, 3) := by decide +kernel
theorem dX9_count_107 : decode cX9_count 107 = .ok (.ireturn, 1) := by decide +kernel
theorem dX9_count_108 : decode cX9_count 108 = .ok (.aload_n 0, 1) := by decide +kernel
theorem dX9_count_109 : decode cX9_count 109 = .ok (.getfield 26, 3) := by decide +kernel
theorem dX9_count_112 : decode cX9_count 112 = .ok (.invokevirtual 405, 3) := by decide +kernel
theorem dX9_count_115 : decode cX9_count 115 = .ok (.ireturn, 1) := by decide +kernel
theorem dX9_count_116 : decode cX9_count 116 = .ok (.aload_n 0, 1) := by decide +kernel
theorem dX9_count_117 : decode cX9_count 117 = .ok (.getfield 57, 3) := by decide +kernel
theorem dX9_count_120 : decode cX9_count 120 = .ok (.getfield 358, 3) := by decide +kernel
theorem dX9_count_123 : decode cX9_count 123 = .ok (.ireturn, 1) := by decide +kernel
theorem dX9_count_124 : decode cX9_count 124 = .ok (.aload_n 0, 1) := by decide +kernel
theorem dX9_count_125 : decode cX9_count 125 = .ok (.getfield 42, 3) := by decide +kernel
theorem dX9_count_128 : decode cX9_count 128 = .ok (.getfield 127, 3) := by decide +kernel
theorem dX9_count_131 : decode cX9_count 131 = .ok (.ireturn, 1) := by decide +kernel
theorem dX9_count_132 : decode cX9_count 132 = .ok (.aload_n 0, 1) := by decide +kernel
theorem dX9_count_133 : decode cX9_count 133 = .ok (.getfield 19, 3) := by decide +kernel
theorem dX9_count_136 : decode cX9_count 136 = .ok (.getfield 235, 3) := by decide +kernel
theorem dX9_count_139 : decode cX9_count 139 = .ok (.ireturn, 1) := by decide +kernel
theorem dX9_count_140 : decode cX9_count 140 = .ok (.aload_n 0, 1) := by decide +kernel
theorem dX9_count_141 : decode cX9_count 141 = .ok (.getfield 10, 3) := by decide +kernel
theorem dX9_count_144 : decode cX9_count 144 = .ok (.getfield 107, 3) := by decide +kernel
theorem dX9_count_147 : decode cX9_count 147 = .ok (.ireturn, 1) := by decide +kernel
theorem dX9_count_148 : decode cX9_count 148 = .ok (.bipush (-100), 2) := by decide +kernel
theorem dX9_count_150 : decode cX9_count 150 = .ok (.ireturn, 1) := by decide +kernel
section Walk
variable {p : Program} {l : Launch} {e : Env} {s : State} {m : MethodId} {args : Array Value} {below : List Frame} {meth : Method} {c : Code} {G : GG} {B : Nat}
set_option maxHeartbeats 1000000 in
set_option maxRecDepth 10000 in
theorem wX9_sign_19 (cx : Cx p s m args c cX9_sign 3 RX9 G) (hr : meth.sig.returnType = (some .int)) (hlk : meth.locks = false) : ∀ (n : Nat) (x1 : Int32) (x2 : Int32)  (M : Mem) (q : Int32 × Mem), fX9_sign_19 n x1 x2 M = some q → ∀ (H : Heap) (locs : List Loc) (ls : Array Slot), Wo Ph G B 205 s M H locs → lv_has ls 3 [(0, .ref (B + 1)), (1, .int x1), (2, .int x2)] → W p l e (rmN (3)) s m args below meth c H locs 0 0 (MQ below (QcI Ph G B 205 q.1 q.2) args s 0 0 (fr B)) (F0 m 19 ls []) := by
  intro n
  induction n with
  | zero =>
    intro x1 x2 M q hf H locs ls wo hl
    have hf : none = some q := hf
    cases hf
  | succ n ih =>
    intro x1 x2 M q hf H locs ls wo hl
    rw [fX9_sign_19] at hf
    refine lv_iload_n cx.1 cx.2.1 dX9_sign_19 rfl (lv_at hl 2 rfl) ?_
    refine lv_if_lt (tgt := 43) cx.1 cx.2.1 dX9_sign_20 (by decide) (fun c2 => ?_) (fun c2 => ?_)
    · rw [if_pos c2] at hf
      refine lv_aload_n cx.1 cx.2.1 dX9_sign_43 rfl (lv_at hl 0 rfl) ?_
      refine r_getR cx wo ad_1.1 ad_1.2.1 ad_1.2.2 fiX9_10 (fn_1_0 wo.2.2.2.1) (by decide) dX9_sign_44 ?_
      refine r_getI cx wo ad_2.1 ad_2.2.1 ad_2.2.2 fiX9_107 dX9_sign_47 ?_
      have hq := Option.some.inj hf
      subst hq
      exact r_iret cx wo hr hlk dX9_sign_50
    · rw [if_neg c2] at hf
      refine lv_aload_n cx.1 cx.2.1 dX9_sign_23 rfl (lv_at hl 0 rfl) ?_
      refine r_getR cx wo ad_1.1 ad_1.2.1 ad_1.2.2 fiX9_10 (fn_1_0 wo.2.2.2.1) (by decide) dX9_sign_24 ?_
      refine lv_iload_n cx.1 cx.2.1 dX9_sign_27 rfl (lv_at hl 1 rfl) ?_
      refine lv_iload_n cx.1 cx.2.1 dX9_sign_28 rfl (lv_at hl 2 rfl) ?_
      refine lv_iushr (v := (x1.toUInt32 >>> (Int32.toUInt32 x2 &&& Int32.toUInt32 31)).toInt32) cx.1 cx.2.1 dX9_sign_29 rfl ?_
      refine lv_sipush (v := 255) cx.1 cx.2.1 dX9_sign_30 (by decide) ?_
      refine lv_iand cx.1 cx.2.1 dX9_sign_33 ?_
      obtain ⟨q3, e4, hf⟩ := bd_elim hf
      refine r_Vv (rest := []) cx wo (mX8_add l e4) cvX9_111 rfl ad_2.1 ad_2.2.1 ad_2.2.2 rfl rfl hl.1 rfl (Nat.le_of_ble_eq_true rfl) (hR_ok (by decide)) dX9_sign_34 (fun H locs wo => ?_)
      obtain ⟨y5, e6, hf⟩ := lt_elim hf
      refine lv_iinc (v := y5) (lv' := [(2, .int y5), (0, .ref (B + 1)), (1, .int x1)]) cx.1 cx.2.1 dX9_sign_37 hl (k := 2) rfl (by rw [e6]; rfl) (by decide) rfl (fun ls hl => ?_)
      refine lv_goto (tgt := 19) cx.1 cx.2.1 dX9_sign_40 (by decide) ?_
      exact ih _ _ _ _ hf _ _ _ wo (lv_sub hl [1, 2, 0] rfl)
set_option maxHeartbeats 1000000 in
set_option maxRecDepth 10000 in
theorem mX9_sign (l : Launch) {G : GG} {B : Nat} {x1 : Int32}  {M : Mem} {q : Int32 × Mem} (hf : fX9_sign x1 M = some q) : Met l yX9_sign (wsG yX9_sign cX9_sign 3 (some .int)) (rmN (3)) (PcW Ph G B 205 M [.ref (B + 1), .int x1]) (QcI Ph G B 205 q.1 q.2) 0 0 (fr B) := by
  refine mk_Met (own := RX9) rfl rfl (Nat.le_of_ble_eq_true rfl) ?_
  intro p e s m below meth c ls cx hr hlk wo hl
  have hl : lv_has ls 3 [(0, .ref (B + 1)), (1, .int x1)] := hl
  unfold fX9_sign at hf
  refine lv_aload_n cx.1 cx.2.1 dX9_sign_0 rfl (lv_at hl 0 rfl) ?_
  refine r_getR cx wo ad_1.1 ad_1.2.1 ad_1.2.2 fiX9_10 (fn_1_0 wo.2.2.2.1) (by decide) dX9_sign_1 ?_
  refine r_getI cx wo ad_2.1 ad_2.2.1 ad_2.2.2 fiX9_107 dX9_sign_4 ?_
  refine lv_iconst (v := 4) cx.1 cx.2.1 dX9_sign_7 (by decide) ?_
  refine lv_iadd cx.1 cx.2.1 dX9_sign_8 ?_
  refine lv_bipush (v := 80) cx.1 cx.2.1 dX9_sign_9 (by decide) ?_
  refine lv_icmp_le (tgt := 16) cx.1 cx.2.1 dX9_sign_11 (by decide) (fun c1 => ?_) (fun c1 => ?_)
  · rw [if_pos c1] at hf
    refine lv_bipush (v := 24) cx.1 cx.2.1 dX9_sign_16 (by decide) ?_
    refine lv_istore_n (lv' := [(2, .int 24), (0, .ref (B + 1)), (1, .int x1)]) cx.1 cx.2.1 dX9_sign_18 rfl hl (by decide) rfl (fun ls hl => ?_)
    exact wX9_sign_19 cx hr hlk _ _ _ _ _ hf _ _ _ wo (lv_sub hl [1, 2, 0] rfl)
  · rw [if_neg c1] at hf
    refine lv_iconst (v := (-1)) cx.1 cx.2.1 dX9_sign_14 (by decide) ?_
    have hq := Option.some.inj hf
    subst hq
    exact r_iret cx wo hr hlk dX9_sign_15
set_option maxHeartbeats 1000000 in
set_option maxRecDepth 10000 in
theorem mX9_end (l : Launch) {G : GG} {B : Nat} {x1 : Int32}  {M : Mem} {q : Int32 × Mem} (hf : fX9_end x1 M = some q) : Met l yX9_end (wsG yX9_end cX9_end 2 (some .boolean)) (rmN (2)) (PcW Ph G B 205 M [.ref (B + 1), .int x1]) (QcI Ph G B 205 q.1 q.2) 0 0 (fr B) := by
  refine mk_Met (own := RX9) rfl rfl (Nat.le_of_ble_eq_true rfl) ?_
  intro p e s m below meth c ls cx hr hlk wo hl
  have hl : lv_has ls 2 [(0, .ref (B + 1)), (1, .int x1)] := hl
  unfold fX9_end at hf
  refine lv_iload_n cx.1 cx.2.1 dX9_end_0 rfl (lv_at hl 1 rfl) ?_
  refine lv_if_lt (tgt := 15) cx.1 cx.2.1 dX9_end_1 (by decide) (fun c1 => ?_) (fun c1 => ?_)
  · rw [if_pos c1] at hf
    refine lv_iconst (v := 0) cx.1 cx.2.1 dX9_end_15 (by decide) ?_
    have hq := Option.some.inj hf
    subst hq
    exact r_zret cx wo hr hlk (Or.inl rfl) dX9_end_16
  · rw [if_neg c1] at hf
    refine lv_iload_n cx.1 cx.2.1 dX9_end_4 rfl (lv_at hl 1 rfl) ?_
    refine lv_aload_n cx.1 cx.2.1 dX9_end_5 rfl (lv_at hl 0 rfl) ?_
    refine r_getR cx wo ad_1.1 ad_1.2.1 ad_1.2.2 fiX9_10 (fn_1_0 wo.2.2.2.1) (by decide) dX9_end_6 ?_
    refine r_getI cx wo ad_2.1 ad_2.2.1 ad_2.2.2 fiX9_107 dX9_end_9 ?_
    refine lv_icmp_le (tgt := 17) cx.1 cx.2.1 dX9_end_12 (by decide) (fun c2 => ?_) (fun c2 => ?_)
    · rw [if_pos c2] at hf
      refine lv_aload_n cx.1 cx.2.1 dX9_end_17 rfl (lv_at hl 0 rfl) ?_
      refine r_getR cx wo ad_1.1 ad_1.2.1 ad_1.2.2 fiX9_10 (fn_1_0 wo.2.2.2.1) (by decide) dX9_end_18 ?_
      refine lv_iload_n cx.1 cx.2.1 dX9_end_21 rfl (lv_at hl 1 rfl) ?_
      obtain ⟨M3, e4, hf⟩ := lt_elim hf
      refine r_putI cx wo ad_2.1 ad_2.2.1 ad_2.2.2 fpX9_107 dX9_end_22 (fun H locs wo => ?_)
      rw [← e4] at wo
      refine lv_iconst (v := 1) cx.1 cx.2.1 dX9_end_25 (by decide) ?_
      have hq := Option.some.inj hf
      subst hq
      exact r_zret cx wo hr hlk (Or.inr rfl) dX9_end_26
    · rw [if_neg c2] at hf
      refine lv_iconst (v := 0) cx.1 cx.2.1 dX9_end_15 (by decide) ?_
      have hq := Option.some.inj hf
      subst hq
      exact r_zret cx wo hr hlk (Or.inl rfl) dX9_end_16
set_option maxHeartbeats 1000000 in
set_option maxRecDepth 10000 in
theorem mX9_fitsLine (l : Launch) {G : GG} {B : Nat} {x1 : Int32} {x2 : Int32}  {M : Mem} {q : Int32 × Mem} (hf : fX9_fitsLine x1 x2 M = some q) : Met l yX9_fitsLine (wsG yX9_fitsLine cX9_fitsLine 3 (some .boolean)) (rmN (4)) (PcW Ph G B 205 M [.ref (B + 1), .int x1, .int x2]) (QcI Ph G B 205 q.1 q.2) 0 0 (fr B) := by
  refine mk_Met (own := RX9) rfl rfl (Nat.le_of_ble_eq_true rfl) ?_
  intro p e s m below meth c ls cx hr hlk wo hl
  have hl : lv_has ls 3 [(0, .ref (B + 1)), (1, .int x1), (2, .int x2)] := hl
  unfold fX9_fitsLine at hf
  refine lv_iload_n cx.1 cx.2.1 dX9_fitsLine_0 rfl (lv_at hl 1 rfl) ?_
  refine lv_iconst (v := 3) cx.1 cx.2.1 dX9_fitsLine_1 (by decide) ?_
  refine lv_irem cx.1 cx.2.1 dX9_fitsLine_2 (by decide) ?_
  obtain ⟨y1, e2, hf⟩ := lt_elim hf
  refine r_topi e2 ?_
  by_cases c3 : y1 = 0
  · refine r_tlk (tgt := 28) cx c3 dX9_fitsLine_3 (by decide) rfl (by decide) ?_
    rw [if_pos c3] at hf
    refine lv_iload_n cx.1 cx.2.1 dX9_fitsLine_28 rfl (lv_at hl 1 rfl) ?_
    refine lv_iconst (v := 3) cx.1 cx.2.1 dX9_fitsLine_29 (by decide) ?_
    refine lv_idiv cx.1 cx.2.1 dX9_fitsLine_30 (by decide) ?_
    refine lv_iload_n cx.1 cx.2.1 dX9_fitsLine_31 rfl (lv_at hl 2 rfl) ?_
    refine lv_icmp_ge (tgt := 50) cx.1 cx.2.1 dX9_fitsLine_32 (by decide) (fun c4 => ?_) (fun c4 => ?_)
    · rw [if_pos c4] at hf
      refine lv_iconst (v := 0) cx.1 cx.2.1 dX9_fitsLine_50 (by decide) ?_
      have hq := Option.some.inj hf
      subst hq
      exact r_zret cx wo hr hlk (Or.inl rfl) dX9_fitsLine_51
    · rw [if_neg c4] at hf
      refine lv_aload_n cx.1 cx.2.1 dX9_fitsLine_35 rfl (lv_at hl 0 rfl) ?_
      refine r_getR cx wo ad_1.1 ad_1.2.1 ad_1.2.2 fiX9_10 (fn_1_0 wo.2.2.2.1) (by decide) dX9_fitsLine_36 ?_
      refine lv_iload_n cx.1 cx.2.1 dX9_fitsLine_39 rfl (lv_at hl 1 rfl) ?_
      obtain ⟨q5, e6, hf⟩ := bd_elim hf
      refine r_Vi (rest := []) cx wo (mX8_digitAt l e6) cvX9_119 rfl ad_2.1 ad_2.2.1 ad_2.2.2 rfl rfl hl.1 rfl (Nat.le_of_ble_eq_true rfl) (hR_ok (by decide)) dX9_fitsLine_40 (fun H locs wo => ?_)
      refine lv_if_le (tgt := 50) cx.1 cx.2.1 dX9_fitsLine_43 (by decide) (fun c7 => ?_) (fun c7 => ?_)
      · rw [if_pos c7] at hf
        refine lv_iconst (v := 0) cx.1 cx.2.1 dX9_fitsLine_50 (by decide) ?_
        have hq := Option.some.inj hf
        subst hq
        exact r_zret cx wo hr hlk (Or.inl rfl) dX9_fitsLine_51
      · rw [if_neg c7] at hf
        refine lv_iconst (v := 1) cx.1 cx.2.1 dX9_fitsLine_46 (by decide) ?_
        refine lv_goto (tgt := 51) cx.1 cx.2.1 dX9_fitsLine_47 (by decide) ?_
        have hq := Option.some.inj hf
        subst hq
        exact r_zret cx wo hr hlk (Or.inr rfl) dX9_fitsLine_51
  · rw [if_neg c3] at hf
    by_cases c8 : y1 = 1
    · refine r_tlk (tgt := 52) cx c8 dX9_fitsLine_3 (by decide) rfl (by decide) ?_
      rw [if_pos c8] at hf
      refine lv_aload_n cx.1 cx.2.1 dX9_fitsLine_52 rfl (lv_at hl 0 rfl) ?_
      refine r_getR cx wo ad_1.1 ad_1.2.1 ad_1.2.2 fiX9_10 (fn_1_0 wo.2.2.2.1) (by decide) dX9_fitsLine_53 ?_
      refine lv_iload_n cx.1 cx.2.1 dX9_fitsLine_56 rfl (lv_at hl 1 rfl) ?_
      obtain ⟨q9, e10, hf⟩ := bd_elim hf
      refine r_Vi (rest := []) cx wo (mX8_digitAt l e10) cvX9_119 rfl ad_2.1 ad_2.2.1 ad_2.2.2 rfl rfl hl.1 rfl (Nat.le_of_ble_eq_true rfl) (hR_ok (by decide)) dX9_fitsLine_57 (fun H locs wo => ?_)
      refine lv_if_lt (tgt := 67) cx.1 cx.2.1 dX9_fitsLine_60 (by decide) (fun c11 => ?_) (fun c11 => ?_)
      · rw [if_pos c11] at hf
        refine lv_iconst (v := 0) cx.1 cx.2.1 dX9_fitsLine_67 (by decide) ?_
        have hq := Option.some.inj hf
        subst hq
        exact r_zret cx wo hr hlk (Or.inl rfl) dX9_fitsLine_68
      · rw [if_neg c11] at hf
        refine lv_iconst (v := 1) cx.1 cx.2.1 dX9_fitsLine_63 (by decide) ?_
        refine lv_goto (tgt := 68) cx.1 cx.2.1 dX9_fitsLine_64 (by decide) ?_
        have hq := Option.some.inj hf
        subst hq
        exact r_zret cx wo hr hlk (Or.inr rfl) dX9_fitsLine_68
    · rw [if_neg c8] at hf
      have nc3 := i_ne (n := 0) c3 (by decide)
      have mc3 : ¬ (0 : Int) = y1.toInt := fun h => nc3 h.symm
      have nc8 := i_ne (n := 1) c8 (by decide)
      have mc8 : ¬ (1 : Int) = y1.toInt := fun h => nc8 h.symm
      refine lv_lookup (off := 66) (tgt := 69) cx.1 cx.2.1 dX9_fitsLine_3 (by decide) (by simp [Op.lookupswitch.offset, mc3, mc8]) (by decide) ?_
      refine lv_aload_n cx.1 cx.2.1 dX9_fitsLine_69 rfl (lv_at hl 0 rfl) ?_
      refine r_getR cx wo ad_1.1 ad_1.2.1 ad_1.2.2 fiX9_10 (fn_1_0 wo.2.2.2.1) (by decide) dX9_fitsLine_70 ?_
      refine lv_iload_n cx.1 cx.2.1 dX9_fitsLine_73 rfl (lv_at hl 1 rfl) ?_
      obtain ⟨q12, e13, hf⟩ := bd_elim hf
      refine r_Vi (rest := []) cx wo (mX8_signAt l e13) cvX9_420 rfl ad_2.1 ad_2.2.1 ad_2.2.2 rfl rfl hl.1 rfl (Nat.le_of_ble_eq_true rfl) (hR_ok (by decide)) dX9_fitsLine_74 (fun H locs wo => ?_)
      refine lv_bipush (v := 59) cx.1 cx.2.1 dX9_fitsLine_77 (by decide) ?_
      refine lv_icmp_ne (tgt := 86) cx.1 cx.2.1 dX9_fitsLine_79 (by decide) (fun c14 => ?_) (fun c14 => ?_)
      · rw [if_neg c14] at hf
        refine lv_iconst (v := 0) cx.1 cx.2.1 dX9_fitsLine_86 (by decide) ?_
        have hq := Option.some.inj hf
        subst hq
        exact r_zret cx wo hr hlk (Or.inl rfl) dX9_fitsLine_87
      · rw [if_pos c14] at hf
        refine lv_iconst (v := 1) cx.1 cx.2.1 dX9_fitsLine_82 (by decide) ?_
        refine lv_goto (tgt := 87) cx.1 cx.2.1 dX9_fitsLine_83 (by decide) ?_
        have hq := Option.some.inj hf
        subst hq
        exact r_zret cx wo hr hlk (Or.inr rfl) dX9_fitsLine_87
set_option maxHeartbeats 1000000 in
set_option maxRecDepth 10000 in
theorem wX9_boatsFault_13 (cx : Cx p s m args c cX9_boatsFault 3 RX9 G) (hr : meth.sig.returnType = (some .int)) (hlk : meth.locks = false) : ∀ (n : Nat) (x1 : Int32) (x2 : Int32)  (M : Mem) (q : Int32 × Mem), fX9_boatsFault_13 n x1 x2 M = some q → ∀ (H : Heap) (locs : List Loc) (ls : Array Slot), Wo Ph G B 205 s M H locs → lv_has ls 3 [(0, .ref (B + 1)), (1, .int x1), (2, .int x2)] → W p l e (rmN (5)) s m args below meth c H locs 0 0 (MQ below (QcI Ph G B 205 q.1 q.2) args s 0 0 (fr B)) (F0 m 13 ls []) := by
  intro n
  induction n with
  | zero =>
    intro x1 x2 M q hf H locs ls wo hl
    have hf : none = some q := hf
    cases hf
  | succ n ih =>
    intro x1 x2 M q hf H locs ls wo hl
    rw [fX9_boatsFault_13] at hf
    refine lv_iload_n cx.1 cx.2.1 dX9_boatsFault_13 rfl (lv_at hl 2 rfl) ?_
    refine lv_aload_n cx.1 cx.2.1 dX9_boatsFault_14 rfl (lv_at hl 0 rfl) ?_
    refine r_getR cx wo ad_1.1 ad_1.2.1 ad_1.2.2 fiX9_10 (fn_1_0 wo.2.2.2.1) (by decide) dX9_boatsFault_15 ?_
    refine r_getI cx wo ad_2.1 ad_2.2.1 ad_2.2.2 fiX9_107 dX9_boatsFault_18 ?_
    refine lv_icmp_ge (tgt := 47) cx.1 cx.2.1 dX9_boatsFault_21 (by decide) (fun c3 => ?_) (fun c3 => ?_)
    · rw [if_pos c3] at hf
      refine lv_aload_n cx.1 cx.2.1 dX9_boatsFault_47 rfl (lv_at hl 0 rfl) ?_
      refine r_getR cx wo ad_1.1 ad_1.2.1 ad_1.2.2 fiX9_10 (fn_1_0 wo.2.2.2.1) (by decide) dX9_boatsFault_48 ?_
      refine r_getI cx wo ad_2.1 ad_2.2.1 ad_2.2.2 fiX9_107 dX9_boatsFault_51 ?_
      refine lv_if_eq (tgt := 70) cx.1 cx.2.1 dX9_boatsFault_54 (by decide) (fun c4 => ?_) (fun c4 => ?_)
      · rw [if_pos c4] at hf
        refine lv_iconst (v := (-1)) cx.1 cx.2.1 dX9_boatsFault_70 (by decide) ?_
        refine lv_goto (tgt := 81) cx.1 cx.2.1 dX9_boatsFault_71 (by decide) ?_
        have hq := Option.some.inj hf
        subst hq
        exact r_iret cx wo hr hlk dX9_boatsFault_81
      · rw [if_neg c4] at hf
        refine lv_aload_n cx.1 cx.2.1 dX9_boatsFault_57 rfl (lv_at hl 0 rfl) ?_
        refine r_getR cx wo ad_1.1 ad_1.2.1 ad_1.2.2 fiX9_10 (fn_1_0 wo.2.2.2.1) (by decide) dX9_boatsFault_58 ?_
        refine r_getI cx wo ad_2.1 ad_2.2.1 ad_2.2.2 fiX9_107 dX9_boatsFault_61 ?_
        refine lv_iconst (v := 3) cx.1 cx.2.1 dX9_boatsFault_64 (by decide) ?_
        refine lv_irem cx.1 cx.2.1 dX9_boatsFault_65 (by decide) ?_
        refine lv_iconst (v := 2) cx.1 cx.2.1 dX9_boatsFault_66 (by decide) ?_
        refine lv_icmp_ne (tgt := 74) cx.1 cx.2.1 dX9_boatsFault_67 (by decide) (fun c5 => ?_) (fun c5 => ?_)
        · rw [if_neg c5] at hf
          refine lv_aload_n cx.1 cx.2.1 dX9_boatsFault_74 rfl (lv_at hl 0 rfl) ?_
          refine r_getR cx wo ad_1.1 ad_1.2.1 ad_1.2.2 fiX9_10 (fn_1_0 wo.2.2.2.1) (by decide) dX9_boatsFault_75 ?_
          refine r_getI cx wo ad_2.1 ad_2.2.1 ad_2.2.2 fiX9_107 dX9_boatsFault_78 ?_
          have hq := Option.some.inj hf
          subst hq
          exact r_iret cx wo hr hlk dX9_boatsFault_81
        · rw [if_pos c5] at hf
          refine lv_iconst (v := (-1)) cx.1 cx.2.1 dX9_boatsFault_70 (by decide) ?_
          refine lv_goto (tgt := 81) cx.1 cx.2.1 dX9_boatsFault_71 (by decide) ?_
          have hq := Option.some.inj hf
          subst hq
          exact r_iret cx wo hr hlk dX9_boatsFault_81
    · rw [if_neg c3] at hf
      refine lv_iload_n cx.1 cx.2.1 dX9_boatsFault_24 rfl (lv_at hl 2 rfl) ?_
      refine lv_bipush (v := 17) cx.1 cx.2.1 dX9_boatsFault_25 (by decide) ?_
      refine lv_icmp_ge (tgt := 39) cx.1 cx.2.1 dX9_boatsFault_27 (by decide) (fun c6 => ?_) (fun c6 => ?_)
      · rw [if_pos c6] at hf
        refine lv_iload_n cx.1 cx.2.1 dX9_boatsFault_39 rfl (lv_at hl 2 rfl) ?_
        have hq := Option.some.inj hf
        subst hq
        exact r_iret cx wo hr hlk dX9_boatsFault_40
      · rw [if_neg c6] at hf
        refine lv_aload_n cx.1 cx.2.1 dX9_boatsFault_30 rfl (lv_at hl 0 rfl) ?_
        refine lv_iload_n cx.1 cx.2.1 dX9_boatsFault_31 rfl (lv_at hl 2 rfl) ?_
        refine lv_iload_n cx.1 cx.2.1 dX9_boatsFault_32 rfl (lv_at hl 1 rfl) ?_
        obtain ⟨q7, e8, hf⟩ := bd_elim hf
        refine r_Vi (rest := []) cx wo (mX9_fitsLine l e8) cvX9_417 rfl ad_1.1 ad_1.2.1 ad_1.2.2 rfl rfl hl.1 rfl (Nat.le_of_ble_eq_true rfl) (hR_ok (by decide)) dX9_boatsFault_33 (fun H locs wo => ?_)
        refine lv_if_ne (tgt := 41) cx.1 cx.2.1 dX9_boatsFault_36 (by decide) (fun c9 => ?_) (fun c9 => ?_)
        · rw [if_neg c9] at hf
          obtain ⟨y10, e11, hf⟩ := lt_elim hf
          refine lv_iinc (v := y10) (lv' := [(2, .int y10), (0, .ref (B + 1)), (1, .int x1)]) cx.1 cx.2.1 dX9_boatsFault_41 hl (k := 2) rfl (by rw [e11]; rfl) (by decide) rfl (fun ls hl => ?_)
          refine lv_goto (tgt := 13) cx.1 cx.2.1 dX9_boatsFault_44 (by decide) ?_
          exact ih _ _ _ _ hf _ _ _ wo (lv_sub hl [1, 2, 0] rfl)
        · rw [if_pos c9] at hf
          refine lv_iload_n cx.1 cx.2.1 dX9_boatsFault_39 rfl (lv_at hl 2 rfl) ?_
          have hq := Option.some.inj hf
          subst hq
          exact r_iret cx wo hr hlk dX9_boatsFault_40
set_option maxHeartbeats 1000000 in
set_option maxRecDepth 10000 in
theorem mX9_boatsFault (l : Launch) {G : GG} {B : Nat}   {M : Mem} {q : Int32 × Mem} (hf : fX9_boatsFault  M = some q) : Met l yX9_boatsFault (wsG yX9_boatsFault cX9_boatsFault 3 (some .int)) (rmN (5)) (PcW Ph G B 205 M [.ref (B + 1)]) (QcI Ph G B 205 q.1 q.2) 0 0 (fr B) := by
  refine mk_Met (own := RX9) rfl rfl (Nat.le_of_ble_eq_true rfl) ?_
  intro p e s m below meth c ls cx hr hlk wo hl
  have hl : lv_has ls 3 [(0, .ref (B + 1))] := hl
  unfold fX9_boatsFault at hf
  refine lv_bipush (v := 6) cx.1 cx.2.1 dX9_boatsFault_0 (by decide) ?_
  refine lv_aload_n cx.1 cx.2.1 dX9_boatsFault_2 rfl (lv_at hl 0 rfl) ?_
  refine r_getR cx wo ad_1.1 ad_1.2.1 ad_1.2.2 fiX9_26 (fn_1_2 wo.2.2.2.1) (by decide) dX9_boatsFault_3 ?_
  refine r_getI cx wo ad_6.1 ad_6.2.1 ad_6.2.2 fiX9_282 dX9_boatsFault_6 ?_
  refine lv_isub cx.1 cx.2.1 dX9_boatsFault_9 ?_
  obtain ⟨y1, e2, hf⟩ := lt_elim hf
  refine r_topi e2 ?_
  refine lv_istore_n (lv' := [(1, .int y1), (0, .ref (B + 1))]) cx.1 cx.2.1 dX9_boatsFault_10 rfl hl (by decide) rfl (fun ls hl => ?_)
  refine lv_iconst (v := 0) cx.1 cx.2.1 dX9_boatsFault_11 (by decide) ?_
  refine lv_istore_n (lv' := [(2, .int 0), (1, .int y1), (0, .ref (B + 1))]) cx.1 cx.2.1 dX9_boatsFault_12 rfl hl (by decide) rfl (fun ls hl => ?_)
  exact wX9_boatsFault_13 cx hr hlk _ _ _ _ _ hf _ _ _ wo (lv_sub hl [2, 1, 0] rfl)
set_option maxHeartbeats 1000000 in
set_option maxRecDepth 10000 in
theorem wX9_forgetKept_2 (cx : Cx p s m args c cX9_forgetKept 2 RX9 G) (hr : meth.sig.returnType = none) (hlk : meth.locks = false) : ∀ (n : Nat) (x1 : Int32)  (M : Mem) (q : Mem), fX9_forgetKept_2 n x1 M = some q → ∀ (H : Heap) (locs : List Loc) (ls : Array Slot), Wo Ph G B 205 s M H locs → lv_has ls 2 [(0, .ref (B + 1)), (1, .int x1)] → W p l e (rmN (2)) s m args below meth c H locs 0 0 (MQ below (QcV Ph G B 205 q) args s 0 0 (fr B)) (F0 m 2 ls []) := by
  intro n
  induction n with
  | zero =>
    intro x1 M q hf H locs ls wo hl
    have hf : none = some q := hf
    cases hf
  | succ n ih =>
    intro x1 M q hf H locs ls wo hl
    rw [fX9_forgetKept_2] at hf
    refine lv_iload_n cx.1 cx.2.1 dX9_forgetKept_2 rfl (lv_at hl 1 rfl) ?_
    refine lv_iconst (v := 3) cx.1 cx.2.1 dX9_forgetKept_3 (by decide) ?_
    refine lv_icmp_ge (tgt := 20) cx.1 cx.2.1 dX9_forgetKept_4 (by decide) (fun c1 => ?_) (fun c1 => ?_)
    · rw [if_pos c1] at hf
      have hq := Option.some.inj hf
      subst hq
      exact r_vret cx wo hr hlk dX9_forgetKept_20
    · rw [if_neg c1] at hf
      refine lv_aload_n cx.1 cx.2.1 dX9_forgetKept_7 rfl (lv_at hl 0 rfl) ?_
      refine r_getR cx wo ad_1.1 ad_1.2.1 ad_1.2.2 fiX9_50 (fn_1_8 wo.2.2.2.1) (by decide) dX9_forgetKept_8 ?_
      refine lv_iload_n cx.1 cx.2.1 dX9_forgetKept_11 rfl (lv_at hl 1 rfl) ?_
      refine lv_iconst (v := 0) cx.1 cx.2.1 dX9_forgetKept_12 (by decide) ?_
      obtain ⟨g2, hf⟩ := gd_elim hf
      obtain ⟨M3, e4, hf⟩ := lt_elim hf
      refine r_zast cx wo ad_104.1 ad_104.2.1 ad_104.2.2 (by rw [ln_104]; exact g2) dX9_forgetKept_13 (fun H locs wo => ?_)
      rw [← e4] at wo
      obtain ⟨y5, e6, hf⟩ := lt_elim hf
      refine lv_iinc (v := y5) (lv' := [(1, .int y5), (0, .ref (B + 1))]) cx.1 cx.2.1 dX9_forgetKept_14 hl (k := 1) rfl (by rw [e6]; rfl) (by decide) rfl (fun ls hl => ?_)
      refine lv_goto (tgt := 2) cx.1 cx.2.1 dX9_forgetKept_17 (by decide) ?_
      exact ih _ _ _ hf _ _ _ wo (lv_sub hl [1, 0] rfl)
set_option maxHeartbeats 1000000 in
set_option maxRecDepth 10000 in
theorem mX9_forgetKept (l : Launch) {G : GG} {B : Nat}   {M : Mem} {q : Mem} (hf : fX9_forgetKept  M = some q) : Met l yX9_forgetKept (wsG yX9_forgetKept cX9_forgetKept 2 none) (rmN (2)) (PcW Ph G B 205 M [.ref (B + 1)]) (QcV Ph G B 205 q) 0 0 (fr B) := by
  refine mk_Met (own := RX9) rfl rfl (Nat.le_of_ble_eq_true rfl) ?_
  intro p e s m below meth c ls cx hr hlk wo hl
  have hl : lv_has ls 2 [(0, .ref (B + 1))] := hl
  unfold fX9_forgetKept at hf
  refine lv_iconst (v := 0) cx.1 cx.2.1 dX9_forgetKept_0 (by decide) ?_
  refine lv_istore_n (lv' := [(1, .int 0), (0, .ref (B + 1))]) cx.1 cx.2.1 dX9_forgetKept_1 rfl hl (by decide) rfl (fun ls hl => ?_)
  exact wX9_forgetKept_2 cx hr hlk _ _ _ _ hf _ _ _ wo (lv_sub hl [1, 0] rfl)
set_option maxHeartbeats 1000000 in
set_option maxRecDepth 10000 in
theorem wX9_boats_83 (cx : Cx p s m args c cX9_boats 4 RX9 G) (hr : meth.sig.returnType = (some .int)) (hlk : meth.locks = false) : ∀ (x1 : Int32) (x2 : Int32)  (M : Mem) (q : Int32 × Mem), fX9_boats_83 x1 x2 M = some q → ∀ (H : Heap) (locs : List Loc) (ls : Array Slot), Wo Ph G B 205 s M H locs → lv_has ls 4 [(0, .ref (B + 1)), (1, .int x1), (2, .int x2)] → W p l e (rmN (6)) s m args below meth c H locs 0 0 (MQ below (QcI Ph G B 205 q.1 q.2) args s 0 0 (fr B)) (F0 m 83 ls []) := by
  intro x1 x2 M q hf H locs ls wo hl
  unfold fX9_boats_83 at hf
  refine lv_aload_n cx.1 cx.2.1 dX9_boats_83 rfl (lv_at hl 0 rfl) ?_
  refine r_getR cx wo ad_1.1 ad_1.2.1 ad_1.2.2 fiX9_10 (fn_1_0 wo.2.2.2.1) (by decide) dX9_boats_84 ?_
  refine lv_iconst (v := 0) cx.1 cx.2.1 dX9_boats_87 (by decide) ?_
  obtain ⟨M20, e21, hf⟩ := lt_elim hf
  refine r_putI cx wo ad_2.1 ad_2.2.1 ad_2.2.2 fpX9_107 dX9_boats_88 (fun H locs wo => ?_)
  rw [← e21] at wo
  refine lv_iload_n cx.1 cx.2.1 dX9_boats_91 rfl (lv_at hl 1 rfl) ?_
  refine lv_if_lt (tgt := 101) cx.1 cx.2.1 dX9_boats_92 (by decide) (fun c22 => ?_) (fun c22 => ?_)
  · rw [if_pos c22] at hf
    refine lv_iload_n cx.1 cx.2.1 dX9_boats_101 rfl (lv_at hl 2 rfl) ?_
    have hq := Option.some.inj hf
    subst hq
    exact r_iret cx wo hr hlk dX9_boats_102
  · rw [if_neg c22] at hf
    refine lv_iconst (v := (-1)) cx.1 cx.2.1 dX9_boats_95 (by decide) ?_
    refine lv_iload_n cx.1 cx.2.1 dX9_boats_96 rfl (lv_at hl 1 rfl) ?_
    refine lv_isub cx.1 cx.2.1 dX9_boats_97 ?_
    refine lv_goto (tgt := 102) cx.1 cx.2.1 dX9_boats_98 (by decide) ?_
    have hq := Option.some.inj hf
    subst hq
    exact r_iret cx wo hr hlk dX9_boats_102
set_option maxHeartbeats 1000000 in
set_option maxRecDepth 10000 in
theorem wX9_boats_27 (cx : Cx p s m args c cX9_boats 4 RX9 G) (hr : meth.sig.returnType = (some .int)) (hlk : meth.locks = false) : ∀ (n : Nat) (x1 : Int32) (x2 : Int32) (x3 : Int32)  (M : Mem) (q : Int32 × Mem), fX9_boats_27 n x1 x2 x3 M = some q → ∀ (H : Heap) (locs : List Loc) (ls : Array Slot), Wo Ph G B 205 s M H locs → lv_has ls 4 [(0, .ref (B + 1)), (1, .int x1), (2, .int x2), (3, .int x3)] → W p l e (rmN (6)) s m args below meth c H locs 0 0 (MQ below (QcI Ph G B 205 q.1 q.2) args s 0 0 (fr B)) (F0 m 27 ls []) := by
  intro n
  induction n with
  | zero =>
    intro x1 x2 x3 M q hf H locs ls wo hl
    have hf : none = some q := hf
    cases hf
  | succ n ih =>
    intro x1 x2 x3 M q hf H locs ls wo hl
    rw [fX9_boats_27] at hf
    refine lv_iload_n cx.1 cx.2.1 dX9_boats_27 rfl (lv_at hl 3 rfl) ?_
    refine lv_iload_n cx.1 cx.2.1 dX9_boats_28 rfl (lv_at hl 2 rfl) ?_
    refine lv_icmp_ge (tgt := 67) cx.1 cx.2.1 dX9_boats_29 (by decide) (fun c6 => ?_) (fun c6 => ?_)
    · rw [if_pos c6] at hf
      refine lv_iload_n cx.1 cx.2.1 dX9_boats_67 rfl (lv_at hl 2 rfl) ?_
      refine lv_if_le (tgt := 83) cx.1 cx.2.1 dX9_boats_68 (by decide) (fun c7 => ?_) (fun c7 => ?_)
      · rw [if_pos c7] at hf
        exact wX9_boats_83 cx hr hlk _ _ _ _ hf _ _ _ wo (lv_sub hl [0, 1, 2] rfl)
      · rw [if_neg c7] at hf
        refine lv_aload_n cx.1 cx.2.1 dX9_boats_71 rfl (lv_at hl 0 rfl) ?_
        refine r_getR cx wo ad_1.1 ad_1.2.1 ad_1.2.2 fiX9_42 (fn_1_6 wo.2.2.2.1) (by decide) dX9_boats_72 ?_
        refine lv_iconst (v := 0) cx.1 cx.2.1 dX9_boats_75 (by decide) ?_
        obtain ⟨M8, e9, hf⟩ := lt_elim hf
        refine r_putI cx wo ad_26.1 ad_26.2.1 ad_26.2.2 fpX9_127 dX9_boats_76 (fun H locs wo => ?_)
        rw [← e9] at wo
        refine lv_aload_n cx.1 cx.2.1 dX9_boats_79 rfl (lv_at hl 0 rfl) ?_
        obtain ⟨q10, e11, hf⟩ := bd_elim hf
        refine r_Vv (rest := []) cx wo (mX9_forgetKept l e11) cvX9_128 rfl ad_1.1 ad_1.2.1 ad_1.2.2 rfl rfl hl.1 rfl (Nat.le_of_ble_eq_true rfl) (hR_ok (by decide)) dX9_boats_80 (fun H locs wo => ?_)
        exact wX9_boats_83 cx hr hlk _ _ _ _ hf _ _ _ wo (lv_sub hl [0, 1, 2] rfl)
    · rw [if_neg c6] at hf
      refine lv_aload_n cx.1 cx.2.1 dX9_boats_32 rfl (lv_at hl 0 rfl) ?_
      refine r_getR cx wo ad_1.1 ad_1.2.1 ad_1.2.2 fiX9_26 (fn_1_2 wo.2.2.2.1) (by decide) dX9_boats_33 ?_
      refine lv_aload_n cx.1 cx.2.1 dX9_boats_36 rfl (lv_at hl 0 rfl) ?_
      refine r_getR cx wo ad_1.1 ad_1.2.1 ad_1.2.2 fiX9_10 (fn_1_0 wo.2.2.2.1) (by decide) dX9_boats_37 ?_
      refine lv_iconst (v := 3) cx.1 cx.2.1 dX9_boats_40 (by decide) ?_
      refine lv_iload_n cx.1 cx.2.1 dX9_boats_41 rfl (lv_at hl 3 rfl) ?_
      refine lv_imul cx.1 cx.2.1 dX9_boats_42 ?_
      obtain ⟨q12, e13, hf⟩ := bd_elim hf
      refine r_Vi (rest := [.ref (B + 6)]) cx wo (mX8_digitAt l e13) cvX9_119 rfl ad_2.1 ad_2.2.1 ad_2.2.2 rfl rfl hl.1 rfl (Nat.le_of_ble_eq_true rfl) (hR_ok (by decide)) dX9_boats_43 (fun H locs wo => ?_)
      refine lv_aload_n cx.1 cx.2.1 dX9_boats_46 rfl (lv_at hl 0 rfl) ?_
      refine r_getR cx wo ad_1.1 ad_1.2.1 ad_1.2.2 fiX9_10 (fn_1_0 wo.2.2.2.1) (by decide) dX9_boats_47 ?_
      refine lv_iconst (v := 3) cx.1 cx.2.1 dX9_boats_50 (by decide) ?_
      refine lv_iload_n cx.1 cx.2.1 dX9_boats_51 rfl (lv_at hl 3 rfl) ?_
      refine lv_imul cx.1 cx.2.1 dX9_boats_52 ?_
      refine lv_iconst (v := 1) cx.1 cx.2.1 dX9_boats_53 (by decide) ?_
      refine lv_iadd cx.1 cx.2.1 dX9_boats_54 ?_
      obtain ⟨q14, e15, hf⟩ := bd_elim hf
      refine r_Vi (rest := [.int q12.1, .ref (B + 6)]) cx wo (mX8_digitAt l e15) cvX9_119 rfl ad_2.1 ad_2.2.1 ad_2.2.2 rfl rfl hl.1 rfl (Nat.le_of_ble_eq_true rfl) (hR_ok (by decide)) dX9_boats_55 (fun H locs wo => ?_)
      obtain ⟨q16, e17, hf⟩ := bd_elim hf
      refine r_Vv (rest := []) cx wo (mX4_addBoat l (by decide) e17) cvX9_123 rfl ad_6.1 ad_6.2.1 ad_6.2.2 rfl rfl hl.1 rfl (Nat.le_of_ble_eq_true rfl) (hR_ok (by decide)) dX9_boats_58 (fun H locs wo => ?_)
      obtain ⟨y18, e19, hf⟩ := lt_elim hf
      refine lv_iinc (v := y18) (lv' := [(3, .int y18), (0, .ref (B + 1)), (1, .int x1), (2, .int x2)]) cx.1 cx.2.1 dX9_boats_61 hl (k := 3) rfl (by rw [e19]; rfl) (by decide) rfl (fun ls hl => ?_)
      refine lv_goto (tgt := 27) cx.1 cx.2.1 dX9_boats_64 (by decide) ?_
      exact ih _ _ _ _ _ hf _ _ _ wo (lv_sub hl [1, 2, 3, 0] rfl)
set_option maxHeartbeats 1000000 in
set_option maxRecDepth 10000 in
theorem mX9_boats (l : Launch) {G : GG} {B : Nat}   {M : Mem} {q : Int32 × Mem} (hf : fX9_boats  M = some q) : Met l yX9_boats (wsG yX9_boats cX9_boats 4 (some .int)) (rmN (6)) (PcW Ph G B 205 M [.ref (B + 1)]) (QcI Ph G B 205 q.1 q.2) 0 0 (fr B) := by
  refine mk_Met (own := RX9) rfl rfl (Nat.le_of_ble_eq_true rfl) ?_
  intro p e s m below meth c ls cx hr hlk wo hl
  have hl : lv_has ls 4 [(0, .ref (B + 1))] := hl
  unfold fX9_boats at hf
  refine lv_aload_n cx.1 cx.2.1 dX9_boats_0 rfl (lv_at hl 0 rfl) ?_
  obtain ⟨q1, e2, hf⟩ := bd_elim hf
  refine r_Vi (rest := []) cx wo (mX9_boatsFault l e2) cvX9_115 rfl ad_1.1 ad_1.2.1 ad_1.2.2 rfl rfl hl.1 rfl (Nat.le_of_ble_eq_true rfl) (hR_ok (by decide)) dX9_boats_1 (fun H locs wo => ?_)
  refine lv_istore_n (lv' := [(1, .int q1.1), (0, .ref (B + 1))]) cx.1 cx.2.1 dX9_boats_4 rfl hl (by decide) rfl (fun ls hl => ?_)
  refine lv_iload_n cx.1 cx.2.1 dX9_boats_5 rfl (lv_at hl 0 rfl) ?_
  refine lv_if_lt (tgt := 13) cx.1 cx.2.1 dX9_boats_6 (by decide) (fun c3 => ?_) (fun c3 => ?_)
  · rw [if_pos c3] at hf
    refine lv_aload_n cx.1 cx.2.1 dX9_boats_13 rfl (lv_at hl 1 rfl) ?_
    refine r_getR cx wo ad_1.1 ad_1.2.1 ad_1.2.2 fiX9_10 (fn_1_0 wo.2.2.2.1) (by decide) dX9_boats_14 ?_
    refine r_getI cx wo ad_2.1 ad_2.2.1 ad_2.2.2 fiX9_107 dX9_boats_17 ?_
    refine lv_iconst (v := 1) cx.1 cx.2.1 dX9_boats_20 (by decide) ?_
    refine lv_iadd cx.1 cx.2.1 dX9_boats_21 ?_
    refine lv_iconst (v := 3) cx.1 cx.2.1 dX9_boats_22 (by decide) ?_
    refine lv_idiv cx.1 cx.2.1 dX9_boats_23 (by decide) ?_
    obtain ⟨y4, e5, hf⟩ := lt_elim hf
    refine r_topi e5 ?_
    refine lv_istore_n (lv' := [(2, .int y4), (1, .int q1.1), (0, .ref (B + 1))]) cx.1 cx.2.1 dX9_boats_24 rfl hl (by decide) rfl (fun ls hl => ?_)
    refine lv_iconst (v := 0) cx.1 cx.2.1 dX9_boats_25 (by decide) ?_
    refine lv_istore_n (lv' := [(3, .int 0), (2, .int y4), (1, .int q1.1), (0, .ref (B + 1))]) cx.1 cx.2.1 dX9_boats_26 rfl hl (by decide) rfl (fun ls hl => ?_)
    exact wX9_boats_27 cx hr hlk _ _ _ _ _ _ hf _ _ _ wo (lv_sub hl [3, 2, 1, 0] rfl)
  · rw [if_neg c3] at hf
    refine lv_iconst (v := 0) cx.1 cx.2.1 dX9_boats_9 (by decide) ?_
    refine lv_goto (tgt := 24) cx.1 cx.2.1 dX9_boats_10 (by decide) ?_
    refine lv_istore_n (lv' := [(2, .int 0), (1, .int q1.1), (0, .ref (B + 1))]) cx.1 cx.2.1 dX9_boats_24 rfl hl (by decide) rfl (fun ls hl => ?_)
    refine lv_iconst (v := 0) cx.1 cx.2.1 dX9_boats_25 (by decide) ?_
    refine lv_istore_n (lv' := [(3, .int 0), (2, .int 0), (1, .int q1.1), (0, .ref (B + 1))]) cx.1 cx.2.1 dX9_boats_26 rfl hl (by decide) rfl (fun ls hl => ?_)
    exact wX9_boats_27 cx hr hlk _ _ _ _ _ _ hf _ _ _ wo (lv_sub hl [3, 2, 1, 0] rfl)
set_option maxHeartbeats 1000000 in
set_option maxRecDepth 10000 in
theorem mX9_rule (l : Launch) {G : GG} {B : Nat}   {M : Mem} {q : Int32 × Mem} (hf : fX9_rule  M = some q) : Met l yX9_rule (wsG yX9_rule cX9_rule 3 (some .int)) (rmN (48)) (PcW Ph G B 205 M [.ref (B + 1)]) (QcI Ph G B 205 q.1 q.2) 0 0 (fr B) := by
  refine mk_Met (own := RX9) rfl rfl (Nat.le_of_ble_eq_true rfl) ?_
  intro p e s m below meth c ls cx hr hlk wo hl
  have hl : lv_has ls 3 [(0, .ref (B + 1))] := hl
  unfold fX9_rule at hf
  refine lv_aload_n cx.1 cx.2.1 dX9_rule_0 rfl (lv_at hl 0 rfl) ?_
  have hm1 : M.2.2 1 18 ∈ rules := wo.2.2.2.1.2.2.2
  refine r_getR cx wo ad_1.1 ad_1.2.1 ad_1.2.2 fiX9_104 rfl (rul_ok _ hm1).1.1 dX9_rule_1 ?_
  obtain ⟨q2, e3, hf⟩ := bd_elim hf
  refine r_Vi (rest := []) cx wo (mX6_compile l hm1 e3) cvX9_131 rfl (rul_ok _ hm1).1.1 (rul_ok _ hm1).1.2.1 (rul_ok _ hm1).1.2.2 rfl rfl hl.1 rfl (Nat.le_of_ble_eq_true rfl) (hR_ok (by decide)) dX9_rule_4 (fun H locs wo => ?_)
  refine lv_istore_n (lv' := [(1, .int q2.1), (0, .ref (B + 1))]) cx.1 cx.2.1 dX9_rule_7 rfl hl (by decide) rfl (fun ls hl => ?_)
  refine lv_aload_n cx.1 cx.2.1 dX9_rule_8 rfl (lv_at hl 1 rfl) ?_
  refine r_getR cx wo ad_1.1 ad_1.2.1 ad_1.2.2 fiX9_10 (fn_1_0 wo.2.2.2.1) (by decide) dX9_rule_9 ?_
  refine lv_iconst (v := 0) cx.1 cx.2.1 dX9_rule_12 (by decide) ?_
  obtain ⟨M4, e5, hf⟩ := lt_elim hf
  refine r_putI cx wo ad_2.1 ad_2.2.1 ad_2.2.2 fpX9_107 dX9_rule_13 (fun H locs wo => ?_)
  rw [← e5] at wo
  refine lv_iload_n cx.1 cx.2.1 dX9_rule_16 rfl (lv_at hl 0 rfl) ?_
  refine lv_if_lt (tgt := 24) cx.1 cx.2.1 dX9_rule_17 (by decide) (fun c6 => ?_) (fun c6 => ?_)
  · rw [if_pos c6] at hf
    refine lv_aload_n cx.1 cx.2.1 dX9_rule_24 rfl (lv_at hl 1 rfl) ?_
    have hm7 : M4.2.2 1 17 ∈ rules := wo.2.2.2.1.2.2.1
    refine r_getR cx wo ad_1.1 ad_1.2.1 ad_1.2.2 fiX9_100 rfl (rul_ok _ hm7).1.1 dX9_rule_25 ?_
    refine lv_astore_n (lv' := [(2, .ref (B + (M4.2.2 1 17))), (1, .int q2.1), (0, .ref (B + 1))]) cx.1 cx.2.1 dX9_rule_28 rfl hl (by decide) rfl (fun ls hl => ?_)
    refine lv_aload_n cx.1 cx.2.1 dX9_rule_29 rfl (lv_at hl 2 rfl) ?_
    refine lv_aload_n cx.1 cx.2.1 dX9_rule_30 rfl (lv_at hl 2 rfl) ?_
    have hm8 : M4.2.2 1 18 ∈ rules := wo.2.2.2.1.2.2.2
    refine r_getR cx wo ad_1.1 ad_1.2.1 ad_1.2.2 fiX9_104 rfl (rul_ok _ hm8).1.1 dX9_rule_31 ?_
    obtain ⟨M9, e10, hf⟩ := lt_elim hf
    refine r_putR cx wo ad_1.1 ad_1.2.1 ad_1.2.2 fpX9_100 (rul_ok _ hm8).1.1 (fun _ => rfl) (fun _ => rfl) (ph_17 wo.2.2.2.1 hm8) dX9_rule_34 (fun H locs wo => ?_)
    rw [← e10] at wo
    refine lv_aload_n cx.1 cx.2.1 dX9_rule_37 rfl (lv_at hl 2 rfl) ?_
    refine lv_aload_n cx.1 cx.2.1 dX9_rule_38 rfl (lv_at hl 0 rfl) ?_
    obtain ⟨M11, e12, hf⟩ := lt_elim hf
    refine r_putR cx wo ad_1.1 ad_1.2.1 ad_1.2.2 fpX9_104 (rul_ok _ hm7).1.1 (fun _ => rfl) (fun _ => rfl) (ph_18 wo.2.2.2.1 hm7) dX9_rule_39 (fun H locs wo => ?_)
    rw [← e12] at wo
    refine lv_iconst (v := 0) cx.1 cx.2.1 dX9_rule_42 (by decide) ?_
    have hq := Option.some.inj hf
    subst hq
    exact r_iret cx wo hr hlk dX9_rule_43
  · rw [if_neg c6] at hf
    refine lv_iconst (v := (-1)) cx.1 cx.2.1 dX9_rule_20 (by decide) ?_
    refine lv_iload_n cx.1 cx.2.1 dX9_rule_21 rfl (lv_at hl 0 rfl) ?_
    refine lv_isub cx.1 cx.2.1 dX9_rule_22 ?_
    have hq := Option.some.inj hf
    subst hq
    exact r_iret cx wo hr hlk dX9_rule_23
set_option maxHeartbeats 1000000 in
set_option maxRecDepth 10000 in
theorem mX9_sheet (l : Launch) {G : GG} {B : Nat} {x1 : Int32} {x2 : Int32} {x3 : Int32} {x4 : Int32}  {M : Mem} {q : Int32 × Mem} (hf : fX9_sheet x1 x2 x3 x4 M = some q) : Met l yX9_sheet (wsG yX9_sheet cX9_sheet 5 (some .int)) (rmN (3)) (PcW Ph G B 205 M [.ref (B + 1), .int x1, .int x2, .int x3, .int x4]) (QcI Ph G B 205 q.1 q.2) 0 0 (fr B) := by
  refine mk_Met (own := RX9) rfl rfl (Nat.le_of_ble_eq_true rfl) ?_
  intro p e s m below meth c ls cx hr hlk wo hl
  have hl : lv_has ls 5 [(0, .ref (B + 1)), (1, .int x1), (2, .int x2), (3, .int x3), (4, .int x4)] := hl
  unfold fX9_sheet at hf
  refine lv_iload_n cx.1 cx.2.1 dX9_sheet_0 rfl (lv_at hl 1 rfl) ?_
  refine lv_if_lt (tgt := 15) cx.1 cx.2.1 dX9_sheet_1 (by decide) (fun c1 => ?_) (fun c1 => ?_)
  · rw [if_pos c1] at hf
    refine lv_iconst (v := (-1)) cx.1 cx.2.1 dX9_sheet_15 (by decide) ?_
    have hq := Option.some.inj hf
    subst hq
    exact r_iret cx wo hr hlk dX9_sheet_16
  · rw [if_neg c1] at hf
    refine lv_iload_n cx.1 cx.2.1 dX9_sheet_4 rfl (lv_at hl 1 rfl) ?_
    refine lv_iconst (v := 3) cx.1 cx.2.1 dX9_sheet_5 (by decide) ?_
    refine lv_icmp_gt (tgt := 15) cx.1 cx.2.1 dX9_sheet_6 (by decide) (fun c2 => ?_) (fun c2 => ?_)
    · rw [if_pos c2] at hf
      refine lv_iconst (v := (-1)) cx.1 cx.2.1 dX9_sheet_15 (by decide) ?_
      have hq := Option.some.inj hf
      subst hq
      exact r_iret cx wo hr hlk dX9_sheet_16
    · rw [if_neg c2] at hf
      refine lv_iload_n cx.1 cx.2.1 dX9_sheet_9 rfl (lv_at hl 2 rfl) ?_
      refine lv_bipush (v := 6) cx.1 cx.2.1 dX9_sheet_10 (by decide) ?_
      refine lv_icmp_le (tgt := 17) cx.1 cx.2.1 dX9_sheet_12 (by decide) (fun c3 => ?_) (fun c3 => ?_)
      · rw [if_pos c3] at hf
        refine lv_iload_n cx.1 cx.2.1 dX9_sheet_17 rfl (lv_at hl 1 rfl) ?_
        refine lv_iconst (v := 3) cx.1 cx.2.1 dX9_sheet_18 (by decide) ?_
        refine lv_icmp_ne (tgt := 37) cx.1 cx.2.1 dX9_sheet_19 (by decide) (fun c4 => ?_) (fun c4 => ?_)
        · rw [if_neg c4] at hf
          refine lv_iload_n cx.1 cx.2.1 dX9_sheet_37 rfl (lv_at hl 2 rfl) ?_
          refine lv_if_ge (tgt := 44) cx.1 cx.2.1 dX9_sheet_38 (by decide) (fun c5 => ?_) (fun c5 => ?_)
          · rw [if_pos c5] at hf
            refine lv_aload_n cx.1 cx.2.1 dX9_sheet_44 rfl (lv_at hl 0 rfl) ?_
            refine r_getR cx wo ad_1.1 ad_1.2.1 ad_1.2.2 fiX9_26 (fn_1_2 wo.2.2.2.1) (by decide) dX9_sheet_45 ?_
            refine lv_iload_n cx.1 cx.2.1 dX9_sheet_48 rfl (lv_at hl 1 rfl) ?_
            refine lv_iload_n cx.1 cx.2.1 dX9_sheet_49 rfl (lv_at hl 2 rfl) ?_
            refine lv_iload_n cx.1 cx.2.1 dX9_sheet_50 rfl (lv_at hl 3 rfl) ?_
            refine lv_iload cx.1 cx.2.1 dX9_sheet_51 (lv_at hl 4 rfl) ?_
            obtain ⟨q6, e7, hf⟩ := bd_elim hf
            refine r_Vv (rest := []) cx wo (mX4_takeSheet l (by decide) e7) cvX9_171 rfl ad_6.1 ad_6.2.1 ad_6.2.2 rfl rfl hl.1 rfl (Nat.le_of_ble_eq_true rfl) (hR_ok (by decide)) dX9_sheet_53 (fun H locs wo => ?_)
            refine lv_aload_n cx.1 cx.2.1 dX9_sheet_56 rfl (lv_at hl 0 rfl) ?_
            refine r_getR cx wo ad_1.1 ad_1.2.1 ad_1.2.2 fiX9_26 (fn_1_2 wo.2.2.2.1) (by decide) dX9_sheet_57 ?_
            obtain ⟨q8, e9, hf⟩ := bd_elim hf
            refine r_Vi (rest := []) cx wo (mX4_sumOfPaces l (by decide) e9) cvX9_175 rfl ad_6.1 ad_6.2.1 ad_6.2.2 rfl rfl hl.1 rfl (Nat.le_of_ble_eq_true rfl) (hR_ok (by decide)) dX9_sheet_60 (fun H locs wo => ?_)
            have hq := Option.some.inj hf
            subst hq
            exact r_iret cx wo hr hlk dX9_sheet_63
          · rw [if_neg c5] at hf
            refine lv_bipush (v := (-2)) cx.1 cx.2.1 dX9_sheet_41 (by decide) ?_
            have hq := Option.some.inj hf
            subst hq
            exact r_iret cx wo hr hlk dX9_sheet_43
        · rw [if_pos c4] at hf
          refine lv_aload_n cx.1 cx.2.1 dX9_sheet_22 rfl (lv_at hl 0 rfl) ?_
          refine r_getR cx wo ad_1.1 ad_1.2.1 ad_1.2.2 fiX9_26 (fn_1_2 wo.2.2.2.1) (by decide) dX9_sheet_23 ?_
          refine lv_iload_n cx.1 cx.2.1 dX9_sheet_26 rfl (lv_at hl 1 rfl) ?_
          refine lv_iconst (v := 0) cx.1 cx.2.1 dX9_sheet_27 (by decide) ?_
          refine lv_iload_n cx.1 cx.2.1 dX9_sheet_28 rfl (lv_at hl 3 rfl) ?_
          refine lv_iload cx.1 cx.2.1 dX9_sheet_29 (lv_at hl 4 rfl) ?_
          obtain ⟨q10, e11, hf⟩ := bd_elim hf
          refine r_Vv (rest := []) cx wo (mX4_takeSheet l (by decide) e11) cvX9_171 rfl ad_6.1 ad_6.2.1 ad_6.2.2 rfl rfl hl.1 rfl (Nat.le_of_ble_eq_true rfl) (hR_ok (by decide)) dX9_sheet_31 (fun H locs wo => ?_)
          refine lv_bipush (v := (-3)) cx.1 cx.2.1 dX9_sheet_34 (by decide) ?_
          have hq := Option.some.inj hf
          subst hq
          exact r_iret cx wo hr hlk dX9_sheet_36
      · rw [if_neg c3] at hf
        refine lv_iconst (v := (-1)) cx.1 cx.2.1 dX9_sheet_15 (by decide) ?_
        have hq := Option.some.inj hf
        subst hq
        exact r_iret cx wo hr hlk dX9_sheet_16
set_option maxHeartbeats 1000000 in
set_option maxRecDepth 10000 in
theorem wX9_passDays_6 (cx : Cx p s m args c cX9_passDays 6 RX9 G) (hr : meth.sig.returnType = (some .int)) (hlk : meth.locks = false) : ∀ (n : Nat) (a1 : Nat) (a2 : Nat) (x3 : Int32) (x4 : Int32) (x5 : Int32) (h1 : a1 ∈ rivers) (h2 : a2 ∈ rules) (M : Mem) (q : Int32 × Mem), fX9_passDays_6 n a1 a2 x3 x4 x5 M = some q → ∀ (H : Heap) (locs : List Loc) (ls : Array Slot), Wo Ph G B 205 s M H locs → lv_has ls 6 [(0, .ref (B + 1)), (1, .ref (B + a1)), (2, .ref (B + a2)), (3, .int x3), (4, .int x4), (5, .int x5)] → W p l e (rmN (7)) s m args below meth c H locs 0 0 (MQ below (QcI Ph G B 205 q.1 q.2) args s 0 0 (fr B)) (F0 m 6 ls []) := by
  intro n
  induction n with
  | zero =>
    intro a1 a2 x3 x4 x5 h1 h2 M q hf H locs ls wo hl
    have hf : none = some q := hf
    cases hf
  | succ n ih =>
    intro a1 a2 x3 x4 x5 h1 h2 M q hf H locs ls wo hl
    rw [fX9_passDays_6] at hf
    refine lv_iload cx.1 cx.2.1 dX9_passDays_6 (lv_at hl 5 rfl) ?_
    refine lv_iload_n cx.1 cx.2.1 dX9_passDays_8 rfl (lv_at hl 3 rfl) ?_
    refine lv_icmp_ge (tgt := 47) cx.1 cx.2.1 dX9_passDays_9 (by decide) (fun c1 => ?_) (fun c1 => ?_)
    · rw [if_pos c1] at hf
      refine lv_iload cx.1 cx.2.1 dX9_passDays_47 (lv_at hl 4 rfl) ?_
      have hq := Option.some.inj hf
      subst hq
      exact r_iret cx wo hr hlk dX9_passDays_49
    · rw [if_neg c1] at hf
      refine lv_aload_n cx.1 cx.2.1 dX9_passDays_12 rfl (lv_at hl 0 rfl) ?_
      refine r_getR cx wo ad_1.1 ad_1.2.1 ad_1.2.2 fiX9_64 (fn_1_10 wo.2.2.2.1) (by decide) dX9_passDays_13 ?_
      refine lv_aload_n cx.1 cx.2.1 dX9_passDays_16 rfl (lv_at hl 1 rfl) ?_
      refine lv_aload_n cx.1 cx.2.1 dX9_passDays_17 rfl (lv_at hl 2 rfl) ?_
      obtain ⟨q2, e3, hf⟩ := bd_elim hf
      refine r_Vv (rest := []) cx wo (mX3_run l h1 h2 e3) cvX9_157 rfl ad_108.1 ad_108.2.1 ad_108.2.2 rfl rfl hl.1 rfl (Nat.le_of_ble_eq_true rfl) (hR_ok (by decide)) dX9_passDays_18 (fun H locs wo => ?_)
      refine lv_aload_n cx.1 cx.2.1 dX9_passDays_21 rfl (lv_at hl 0 rfl) ?_
      refine r_getR cx wo ad_1.1 ad_1.2.1 ad_1.2.2 fiX9_64 (fn_1_10 wo.2.2.2.1) (by decide) dX9_passDays_22 ?_
      refine lv_aload_n cx.1 cx.2.1 dX9_passDays_25 rfl (lv_at hl 1 rfl) ?_
      obtain ⟨q4, e5, hf⟩ := bd_elim hf
      refine r_Vv (rest := []) cx wo (mX3_settle l h1 e5) cvX9_423 rfl ad_108.1 ad_108.2.1 ad_108.2.2 rfl rfl hl.1 rfl (Nat.le_of_ble_eq_true rfl) (hR_ok (by decide)) dX9_passDays_26 (fun H locs wo => ?_)
      refine lv_iload cx.1 cx.2.1 dX9_passDays_29 (lv_at hl 4 rfl) ?_
      refine lv_aload_n cx.1 cx.2.1 dX9_passDays_31 rfl (lv_at hl 0 rfl) ?_
      refine r_getR cx wo ad_1.1 ad_1.2.1 ad_1.2.2 fiX9_64 (fn_1_10 wo.2.2.2.1) (by decide) dX9_passDays_32 ?_
      refine r_getI cx wo ad_108.1 ad_108.2.1 ad_108.2.2 fiX9_236 dX9_passDays_35 ?_
      refine lv_iadd cx.1 cx.2.1 dX9_passDays_38 ?_
      obtain ⟨y6, e7, hf⟩ := lt_elim hf
      refine r_topi e7 ?_
      refine lv_istore (lv' := [(4, .int y6), (0, .ref (B + 1)), (1, .ref (B + a1)), (2, .ref (B + a2)), (3, .int x3), (5, .int x5)]) cx.1 cx.2.1 dX9_passDays_39 hl (by decide) rfl (fun ls hl => ?_)
      obtain ⟨y8, e9, hf⟩ := lt_elim hf
      refine lv_iinc (v := y8) (lv' := [(5, .int y8), (4, .int y6), (0, .ref (B + 1)), (1, .ref (B + a1)), (2, .ref (B + a2)), (3, .int x3)]) cx.1 cx.2.1 dX9_passDays_41 hl (k := 5) rfl (by rw [e9]; rfl) (by decide) rfl (fun ls hl => ?_)
      refine lv_goto (tgt := 6) cx.1 cx.2.1 dX9_passDays_44 (by decide) ?_
      exact ih _ _ _ _ _ h1 h2 _ _ hf _ _ _ wo (lv_sub hl [2, 3, 4, 5, 1, 0] rfl)
set_option maxHeartbeats 1000000 in
set_option maxRecDepth 10000 in
theorem mX9_passDays (l : Launch) {G : GG} {B : Nat} {a1 : Nat} {a2 : Nat} {x3 : Int32} (h1 : a1 ∈ rivers) (h2 : a2 ∈ rules) {M : Mem} {q : Int32 × Mem} (hf : fX9_passDays a1 a2 x3 M = some q) : Met l yX9_passDays (wsG yX9_passDays cX9_passDays 6 (some .int)) (rmN (7)) (PcW Ph G B 205 M [.ref (B + 1), .ref (B + a1), .ref (B + a2), .int x3]) (QcI Ph G B 205 q.1 q.2) 0 0 (fr B) := by
  refine mk_Met (own := RX9) rfl rfl (Nat.le_of_ble_eq_true rfl) ?_
  intro p e s m below meth c ls cx hr hlk wo hl
  have hl : lv_has ls 6 [(0, .ref (B + 1)), (1, .ref (B + a1)), (2, .ref (B + a2)), (3, .int x3)] := hl
  unfold fX9_passDays at hf
  refine lv_iconst (v := 0) cx.1 cx.2.1 dX9_passDays_0 (by decide) ?_
  refine lv_istore (lv' := [(4, .int 0), (0, .ref (B + 1)), (1, .ref (B + a1)), (2, .ref (B + a2)), (3, .int x3)]) cx.1 cx.2.1 dX9_passDays_1 hl (by decide) rfl (fun ls hl => ?_)
  refine lv_iconst (v := 0) cx.1 cx.2.1 dX9_passDays_3 (by decide) ?_
  refine lv_istore (lv' := [(5, .int 0), (4, .int 0), (0, .ref (B + 1)), (1, .ref (B + a1)), (2, .ref (B + a2)), (3, .int x3)]) cx.1 cx.2.1 dX9_passDays_4 hl (by decide) rfl (fun ls hl => ?_)
  exact wX9_passDays_6 cx hr hlk _ _ _ _ _ _ h1 h2 _ _ hf _ _ _ wo (lv_sub hl [2, 3, 4, 5, 1, 0] rfl)
set_option maxHeartbeats 1000000 in
set_option maxRecDepth 10000 in
theorem mX9_days (l : Launch) {G : GG} {B : Nat} {x1 : Int32}  {M : Mem} {q : Int32 × Mem} (hf : fX9_days x1 M = some q) : Met l yX9_days (wsG yX9_days cX9_days 2 (some .int)) (rmN (8)) (PcW Ph G B 205 M [.ref (B + 1), .int x1]) (QcI Ph G B 205 q.1 q.2) 0 0 (fr B) := by
  refine mk_Met (own := RX9) rfl rfl (Nat.le_of_ble_eq_true rfl) ?_
  intro p e s m below meth c ls cx hr hlk wo hl
  have hl : lv_has ls 2 [(0, .ref (B + 1)), (1, .int x1)] := hl
  unfold fX9_days at hf
  refine lv_iload_n cx.1 cx.2.1 dX9_days_0 rfl (lv_at hl 1 rfl) ?_
  refine lv_if_lt (tgt := 10) cx.1 cx.2.1 dX9_days_1 (by decide) (fun c1 => ?_) (fun c1 => ?_)
  · rw [if_pos c1] at hf
    refine lv_bipush (v := (-2)) cx.1 cx.2.1 dX9_days_10 (by decide) ?_
    have hq := Option.some.inj hf
    subst hq
    exact r_iret cx wo hr hlk dX9_days_12
  · rw [if_neg c1] at hf
    refine lv_iload_n cx.1 cx.2.1 dX9_days_4 rfl (lv_at hl 1 rfl) ?_
    refine lv_bipush (v := 60) cx.1 cx.2.1 dX9_days_5 (by decide) ?_
    refine lv_icmp_le (tgt := 13) cx.1 cx.2.1 dX9_days_7 (by decide) (fun c2 => ?_) (fun c2 => ?_)
    · rw [if_pos c2] at hf
      refine lv_aload_n cx.1 cx.2.1 dX9_days_13 rfl (lv_at hl 0 rfl) ?_
      refine r_getR cx wo ad_1.1 ad_1.2.1 ad_1.2.2 fiX9_42 (fn_1_6 wo.2.2.2.1) (by decide) dX9_days_14 ?_
      refine lv_aload_n cx.1 cx.2.1 dX9_days_17 rfl (lv_at hl 0 rfl) ?_
      refine r_getR cx wo ad_1.1 ad_1.2.1 ad_1.2.2 fiX9_26 (fn_1_2 wo.2.2.2.1) (by decide) dX9_days_18 ?_
      obtain ⟨q3, e4, hf⟩ := bd_elim hf
      refine r_Vv (rest := []) cx wo (mX2_push l (by decide) e4) cvX9_178 rfl ad_26.1 ad_26.2.1 ad_26.2.2 rfl rfl hl.1 rfl (Nat.le_of_ble_eq_true rfl) (hR_ok (by decide)) dX9_days_21 (fun H locs wo => ?_)
      refine lv_aload_n cx.1 cx.2.1 dX9_days_24 rfl (lv_at hl 0 rfl) ?_
      refine r_getR cx wo ad_1.1 ad_1.2.1 ad_1.2.2 fiX9_19 (fn_1_1 wo.2.2.2.1) (by decide) dX9_days_25 ?_
      refine lv_aload_n cx.1 cx.2.1 dX9_days_28 rfl (lv_at hl 0 rfl) ?_
      refine lv_aload_n cx.1 cx.2.1 dX9_days_29 rfl (lv_at hl 0 rfl) ?_
      refine r_getR cx wo ad_1.1 ad_1.2.1 ad_1.2.2 fiX9_26 (fn_1_2 wo.2.2.2.1) (by decide) dX9_days_30 ?_
      refine lv_aload_n cx.1 cx.2.1 dX9_days_33 rfl (lv_at hl 0 rfl) ?_
      have hm5 : q3.2.2 1 17 ∈ rules := wo.2.2.2.1.2.2.1
      refine r_getR cx wo ad_1.1 ad_1.2.1 ad_1.2.2 fiX9_100 rfl (rul_ok _ hm5).1.1 dX9_days_34 ?_
      refine lv_iload_n cx.1 cx.2.1 dX9_days_37 rfl (lv_at hl 1 rfl) ?_
      obtain ⟨q6, e7, hf⟩ := bd_elim hf
      refine r_Vi (rest := [.ref (B + 4)]) cx wo (mX9_passDays l (by decide) hm5 e7) cvX9_182 rfl ad_1.1 ad_1.2.1 ad_1.2.2 rfl rfl hl.1 rfl (Nat.le_of_ble_eq_true rfl) (hR_ok (by decide)) dX9_days_38 (fun H locs wo => ?_)
      refine lv_i2l (v := q6.1.toInt64) cx.1 cx.2.1 dX9_days_41 rfl ?_
      obtain ⟨q8, e9, hf⟩ := bd_elim hf
      refine r_Vv (rest := []) cx wo (mX5_tell l e9) cvX9_186 rfl ad_4.1 ad_4.2.1 ad_4.2.2 rfl rfl hl.1 rfl (Nat.le_of_ble_eq_true rfl) (hR_ok (by decide)) dX9_days_42 (fun H locs wo => ?_)
      refine lv_aload_n cx.1 cx.2.1 dX9_days_45 rfl (lv_at hl 0 rfl) ?_
      refine r_getR cx wo ad_1.1 ad_1.2.1 ad_1.2.2 fiX9_26 (fn_1_2 wo.2.2.2.1) (by decide) dX9_days_46 ?_
      refine lv_iconst (v := 0) cx.1 cx.2.1 dX9_days_49 (by decide) ?_
      obtain ⟨q10, e11, hf⟩ := bd_elim hf
      refine r_Vi (rest := []) cx wo (mX4_boatOn l (by decide) e11) cvX9_154 rfl ad_6.1 ad_6.2.1 ad_6.2.2 rfl rfl hl.1 rfl (Nat.le_of_ble_eq_true rfl) (hR_ok (by decide)) dX9_days_50 (fun H locs wo => ?_)
      have hq := Option.some.inj hf
      subst hq
      exact r_iret cx wo hr hlk dX9_days_53
    · rw [if_neg c2] at hf
      refine lv_bipush (v := (-2)) cx.1 cx.2.1 dX9_days_10 (by decide) ?_
      have hq := Option.some.inj hf
      subst hq
      exact r_iret cx wo hr hlk dX9_days_12
set_option maxHeartbeats 1000000 in
set_option maxRecDepth 10000 in
theorem mX9_noted (l : Launch) {G : GG} {B : Nat} {x1 : Int32}  {M : Mem} {q : Int32 × Mem} (hf : fX9_noted x1 M = some q) : Met l yX9_noted (wsG yX9_noted cX9_noted 2 (some .int)) (rmN (4)) (PcW Ph G B 205 M [.ref (B + 1), .int x1]) (QcI Ph G B 205 q.1 q.2) 0 0 (fr B) := by
  refine mk_Met (own := RX9) rfl rfl (Nat.le_of_ble_eq_true rfl) ?_
  intro p e s m below meth c ls cx hr hlk wo hl
  have hl : lv_has ls 2 [(0, .ref (B + 1)), (1, .int x1)] := hl
  unfold fX9_noted at hf
  refine lv_iload_n cx.1 cx.2.1 dX9_noted_0 rfl (lv_at hl 1 rfl) ?_
  refine lv_if_lt (tgt := 15) cx.1 cx.2.1 dX9_noted_1 (by decide) (fun c1 => ?_) (fun c1 => ?_)
  · rw [if_pos c1] at hf
    refine lv_iload_n cx.1 cx.2.1 dX9_noted_15 rfl (lv_at hl 1 rfl) ?_
    have hq := Option.some.inj hf
    subst hq
    exact r_iret cx wo hr hlk dX9_noted_16
  · rw [if_neg c1] at hf
    refine lv_aload_n cx.1 cx.2.1 dX9_noted_4 rfl (lv_at hl 0 rfl) ?_
    refine r_getR cx wo ad_1.1 ad_1.2.1 ad_1.2.2 fiX9_42 (fn_1_6 wo.2.2.2.1) (by decide) dX9_noted_5 ?_
    refine lv_aload_n cx.1 cx.2.1 dX9_noted_8 rfl (lv_at hl 0 rfl) ?_
    refine r_getR cx wo ad_1.1 ad_1.2.1 ad_1.2.2 fiX9_30 (fn_1_3 wo.2.2.2.1) (by decide) dX9_noted_9 ?_
    obtain ⟨q2, e3, hf⟩ := bd_elim hf
    refine r_Vv (rest := []) cx wo (mX2_push l (by decide) e3) cvX9_178 rfl ad_26.1 ad_26.2.1 ad_26.2.2 rfl rfl hl.1 rfl (Nat.le_of_ble_eq_true rfl) (hR_ok (by decide)) dX9_noted_12 (fun H locs wo => ?_)
    refine lv_iload_n cx.1 cx.2.1 dX9_noted_15 rfl (lv_at hl 1 rfl) ?_
    have hq := Option.some.inj hf
    subst hq
    exact r_iret cx wo hr hlk dX9_noted_16
set_option maxHeartbeats 1000000 in
set_option maxRecDepth 10000 in
theorem mX9_scratches (l : Launch) {G : GG} {B : Nat} {x1 : Int32}  {M : Mem} {q : Int32 × Mem} (hf : fX9_scratches x1 M = some q) : Met l yX9_scratches (wsG yX9_scratches cX9_scratches 2 (some .int)) (rmN (5)) (PcW Ph G B 205 M [.ref (B + 1), .int x1]) (QcI Ph G B 205 q.1 q.2) 0 0 (fr B) := by
  refine mk_Met (own := RX9) rfl rfl (Nat.le_of_ble_eq_true rfl) ?_
  intro p e s m below meth c ls cx hr hlk wo hl
  have hl : lv_has ls 2 [(0, .ref (B + 1)), (1, .int x1)] := hl
  unfold fX9_scratches at hf
  refine lv_aload_n cx.1 cx.2.1 dX9_scratches_0 rfl (lv_at hl 0 rfl) ?_
  refine r_getR cx wo ad_1.1 ad_1.2.1 ad_1.2.2 fiX9_30 (fn_1_3 wo.2.2.2.1) (by decide) dX9_scratches_1 ?_
  refine lv_aload_n cx.1 cx.2.1 dX9_scratches_4 rfl (lv_at hl 0 rfl) ?_
  refine r_getR cx wo ad_1.1 ad_1.2.1 ad_1.2.2 fiX9_26 (fn_1_2 wo.2.2.2.1) (by decide) dX9_scratches_5 ?_
  obtain ⟨q1, e2, hf⟩ := bd_elim hf
  refine r_Vv (rest := []) cx wo (mX4_copyFrom l (by decide) (by decide) e2) cvX9_190 rfl ad_11.1 ad_11.2.1 ad_11.2.2 rfl rfl hl.1 rfl (Nat.le_of_ble_eq_true rfl) (hR_ok (by decide)) dX9_scratches_8 (fun H locs wo => ?_)
  refine lv_aload_n cx.1 cx.2.1 dX9_scratches_11 rfl (lv_at hl 0 rfl) ?_
  refine lv_aload_n cx.1 cx.2.1 dX9_scratches_12 rfl (lv_at hl 0 rfl) ?_
  refine r_getR cx wo ad_1.1 ad_1.2.1 ad_1.2.2 fiX9_26 (fn_1_2 wo.2.2.2.1) (by decide) dX9_scratches_13 ?_
  refine lv_iload_n cx.1 cx.2.1 dX9_scratches_16 rfl (lv_at hl 1 rfl) ?_
  obtain ⟨q3, e4, hf⟩ := bd_elim hf
  refine r_Vi (rest := [.ref (B + 1)]) cx wo (mX4_moveToFoot l (by decide) e4) cvX9_193 rfl ad_6.1 ad_6.2.1 ad_6.2.2 rfl rfl hl.1 rfl (Nat.le_of_ble_eq_true rfl) (hR_ok (by decide)) dX9_scratches_17 (fun H locs wo => ?_)
  obtain ⟨q5, e6, hf⟩ := bd_elim hf
  refine r_Vi (rest := []) cx wo (mX9_noted l e6) cvX9_196 rfl ad_1.1 ad_1.2.1 ad_1.2.2 rfl rfl hl.1 rfl (Nat.le_of_ble_eq_true rfl) (hR_ok (by decide)) dX9_scratches_20 (fun H locs wo => ?_)
  have hq := Option.some.inj hf
  subst hq
  exact r_iret cx wo hr hlk dX9_scratches_23
set_option maxHeartbeats 1000000 in
set_option maxRecDepth 10000 in
theorem mX9_rests (l : Launch) {G : GG} {B : Nat} {x1 : Int32}  {M : Mem} {q : Int32 × Mem} (hf : fX9_rests x1 M = some q) : Met l yX9_rests (wsG yX9_rests cX9_rests 2 (some .int)) (rmN (5)) (PcW Ph G B 205 M [.ref (B + 1), .int x1]) (QcI Ph G B 205 q.1 q.2) 0 0 (fr B) := by
  refine mk_Met (own := RX9) rfl rfl (Nat.le_of_ble_eq_true rfl) ?_
  intro p e s m below meth c ls cx hr hlk wo hl
  have hl : lv_has ls 2 [(0, .ref (B + 1)), (1, .int x1)] := hl
  unfold fX9_rests at hf
  refine lv_aload_n cx.1 cx.2.1 dX9_rests_0 rfl (lv_at hl 0 rfl) ?_
  refine r_getR cx wo ad_1.1 ad_1.2.1 ad_1.2.2 fiX9_30 (fn_1_3 wo.2.2.2.1) (by decide) dX9_rests_1 ?_
  refine lv_aload_n cx.1 cx.2.1 dX9_rests_4 rfl (lv_at hl 0 rfl) ?_
  refine r_getR cx wo ad_1.1 ad_1.2.1 ad_1.2.2 fiX9_26 (fn_1_2 wo.2.2.2.1) (by decide) dX9_rests_5 ?_
  obtain ⟨q1, e2, hf⟩ := bd_elim hf
  refine r_Vv (rest := []) cx wo (mX4_copyFrom l (by decide) (by decide) e2) cvX9_190 rfl ad_11.1 ad_11.2.1 ad_11.2.2 rfl rfl hl.1 rfl (Nat.le_of_ble_eq_true rfl) (hR_ok (by decide)) dX9_rests_8 (fun H locs wo => ?_)
  refine lv_aload_n cx.1 cx.2.1 dX9_rests_11 rfl (lv_at hl 0 rfl) ?_
  refine lv_aload_n cx.1 cx.2.1 dX9_rests_12 rfl (lv_at hl 0 rfl) ?_
  refine r_getR cx wo ad_1.1 ad_1.2.1 ad_1.2.2 fiX9_26 (fn_1_2 wo.2.2.2.1) (by decide) dX9_rests_13 ?_
  refine lv_iload_n cx.1 cx.2.1 dX9_rests_16 rfl (lv_at hl 1 rfl) ?_
  obtain ⟨q3, e4, hf⟩ := bd_elim hf
  refine r_Vi (rest := [.ref (B + 1)]) cx wo (mX4_restBoat l (by decide) e4) cvX9_199 rfl ad_6.1 ad_6.2.1 ad_6.2.2 rfl rfl hl.1 rfl (Nat.le_of_ble_eq_true rfl) (hR_ok (by decide)) dX9_rests_17 (fun H locs wo => ?_)
  obtain ⟨q5, e6, hf⟩ := bd_elim hf
  refine r_Vi (rest := []) cx wo (mX9_noted l e6) cvX9_196 rfl ad_1.1 ad_1.2.1 ad_1.2.2 rfl rfl hl.1 rfl (Nat.le_of_ble_eq_true rfl) (hR_ok (by decide)) dX9_rests_20 (fun H locs wo => ?_)
  have hq := Option.some.inj hf
  subst hq
  exact r_iret cx wo hr hlk dX9_rests_23
set_option maxHeartbeats 1000000 in
set_option maxRecDepth 10000 in
theorem mX9_paces (l : Launch) {G : GG} {B : Nat} {x1 : Int32} {x2 : Int32}  {M : Mem} {q : Int32 × Mem} (hf : fX9_paces x1 x2 M = some q) : Met l yX9_paces (wsG yX9_paces cX9_paces 3 (some .int)) (rmN (5)) (PcW Ph G B 205 M [.ref (B + 1), .int x1, .int x2]) (QcI Ph G B 205 q.1 q.2) 0 0 (fr B) := by
  refine mk_Met (own := RX9) rfl rfl (Nat.le_of_ble_eq_true rfl) ?_
  intro p e s m below meth c ls cx hr hlk wo hl
  have hl : lv_has ls 3 [(0, .ref (B + 1)), (1, .int x1), (2, .int x2)] := hl
  unfold fX9_paces at hf
  refine lv_aload_n cx.1 cx.2.1 dX9_paces_0 rfl (lv_at hl 0 rfl) ?_
  refine r_getR cx wo ad_1.1 ad_1.2.1 ad_1.2.2 fiX9_30 (fn_1_3 wo.2.2.2.1) (by decide) dX9_paces_1 ?_
  refine lv_aload_n cx.1 cx.2.1 dX9_paces_4 rfl (lv_at hl 0 rfl) ?_
  refine r_getR cx wo ad_1.1 ad_1.2.1 ad_1.2.2 fiX9_26 (fn_1_2 wo.2.2.2.1) (by decide) dX9_paces_5 ?_
  obtain ⟨q1, e2, hf⟩ := bd_elim hf
  refine r_Vv (rest := []) cx wo (mX4_copyFrom l (by decide) (by decide) e2) cvX9_190 rfl ad_11.1 ad_11.2.1 ad_11.2.2 rfl rfl hl.1 rfl (Nat.le_of_ble_eq_true rfl) (hR_ok (by decide)) dX9_paces_8 (fun H locs wo => ?_)
  refine lv_aload_n cx.1 cx.2.1 dX9_paces_11 rfl (lv_at hl 0 rfl) ?_
  refine lv_aload_n cx.1 cx.2.1 dX9_paces_12 rfl (lv_at hl 0 rfl) ?_
  refine r_getR cx wo ad_1.1 ad_1.2.1 ad_1.2.2 fiX9_26 (fn_1_2 wo.2.2.2.1) (by decide) dX9_paces_13 ?_
  refine lv_iload_n cx.1 cx.2.1 dX9_paces_16 rfl (lv_at hl 1 rfl) ?_
  refine lv_iload_n cx.1 cx.2.1 dX9_paces_17 rfl (lv_at hl 2 rfl) ?_
  obtain ⟨q3, e4, hf⟩ := bd_elim hf
  refine r_Vi (rest := [.ref (B + 1)]) cx wo (mX4_setPace l (by decide) e4) cvX9_202 rfl ad_6.1 ad_6.2.1 ad_6.2.2 rfl rfl hl.1 rfl (Nat.le_of_ble_eq_true rfl) (hR_ok (by decide)) dX9_paces_18 (fun H locs wo => ?_)
  obtain ⟨q5, e6, hf⟩ := bd_elim hf
  refine r_Vi (rest := []) cx wo (mX9_noted l e6) cvX9_196 rfl ad_1.1 ad_1.2.1 ad_1.2.2 rfl rfl hl.1 rfl (Nat.le_of_ble_eq_true rfl) (hR_ok (by decide)) dX9_paces_21 (fun H locs wo => ?_)
  have hq := Option.some.inj hf
  subst hq
  exact r_iret cx wo hr hlk dX9_paces_24
set_option maxHeartbeats 1000000 in
set_option maxRecDepth 10000 in
theorem mX9_gap (l : Launch) {G : GG} {B : Nat} {x1 : Int32}  {M : Mem} {q : Int32 × Mem} (hf : fX9_gap x1 M = some q) : Met l yX9_gap (wsG yX9_gap cX9_gap 2 (some .int)) (rmN (5)) (PcW Ph G B 205 M [.ref (B + 1), .int x1]) (QcI Ph G B 205 q.1 q.2) 0 0 (fr B) := by
  refine mk_Met (own := RX9) rfl rfl (Nat.le_of_ble_eq_true rfl) ?_
  intro p e s m below meth c ls cx hr hlk wo hl
  have hl : lv_has ls 2 [(0, .ref (B + 1)), (1, .int x1)] := hl
  unfold fX9_gap at hf
  refine lv_aload_n cx.1 cx.2.1 dX9_gap_0 rfl (lv_at hl 0 rfl) ?_
  refine r_getR cx wo ad_1.1 ad_1.2.1 ad_1.2.2 fiX9_30 (fn_1_3 wo.2.2.2.1) (by decide) dX9_gap_1 ?_
  refine lv_aload_n cx.1 cx.2.1 dX9_gap_4 rfl (lv_at hl 0 rfl) ?_
  refine r_getR cx wo ad_1.1 ad_1.2.1 ad_1.2.2 fiX9_26 (fn_1_2 wo.2.2.2.1) (by decide) dX9_gap_5 ?_
  obtain ⟨q1, e2, hf⟩ := bd_elim hf
  refine r_Vv (rest := []) cx wo (mX4_copyFrom l (by decide) (by decide) e2) cvX9_190 rfl ad_11.1 ad_11.2.1 ad_11.2.2 rfl rfl hl.1 rfl (Nat.le_of_ble_eq_true rfl) (hR_ok (by decide)) dX9_gap_8 (fun H locs wo => ?_)
  refine lv_aload_n cx.1 cx.2.1 dX9_gap_11 rfl (lv_at hl 0 rfl) ?_
  refine lv_aload_n cx.1 cx.2.1 dX9_gap_12 rfl (lv_at hl 0 rfl) ?_
  refine r_getR cx wo ad_1.1 ad_1.2.1 ad_1.2.2 fiX9_26 (fn_1_2 wo.2.2.2.1) (by decide) dX9_gap_13 ?_
  refine lv_iload_n cx.1 cx.2.1 dX9_gap_16 rfl (lv_at hl 1 rfl) ?_
  obtain ⟨q3, e4, hf⟩ := bd_elim hf
  refine r_Vi (rest := [.ref (B + 1)]) cx wo (mX4_setGap l (by decide) e4) cvX9_206 rfl ad_6.1 ad_6.2.1 ad_6.2.2 rfl rfl hl.1 rfl (Nat.le_of_ble_eq_true rfl) (hR_ok (by decide)) dX9_gap_17 (fun H locs wo => ?_)
  obtain ⟨q5, e6, hf⟩ := bd_elim hf
  refine r_Vi (rest := []) cx wo (mX9_noted l e6) cvX9_196 rfl ad_1.1 ad_1.2.1 ad_1.2.2 rfl rfl hl.1 rfl (Nat.le_of_ble_eq_true rfl) (hR_ok (by decide)) dX9_gap_20 (fun H locs wo => ?_)
  have hq := Option.some.inj hf
  subst hq
  exact r_iret cx wo hr hlk dX9_gap_23
set_option maxHeartbeats 1000000 in
set_option maxRecDepth 10000 in
theorem mX9_strokes (l : Launch) {G : GG} {B : Nat} {x1 : Int32}  {M : Mem} {q : Int32 × Mem} (hf : fX9_strokes x1 M = some q) : Met l yX9_strokes (wsG yX9_strokes cX9_strokes 2 (some .int)) (rmN (5)) (PcW Ph G B 205 M [.ref (B + 1), .int x1]) (QcI Ph G B 205 q.1 q.2) 0 0 (fr B) := by
  refine mk_Met (own := RX9) rfl rfl (Nat.le_of_ble_eq_true rfl) ?_
  intro p e s m below meth c ls cx hr hlk wo hl
  have hl : lv_has ls 2 [(0, .ref (B + 1)), (1, .int x1)] := hl
  unfold fX9_strokes at hf
  refine lv_aload_n cx.1 cx.2.1 dX9_strokes_0 rfl (lv_at hl 0 rfl) ?_
  refine r_getR cx wo ad_1.1 ad_1.2.1 ad_1.2.2 fiX9_30 (fn_1_3 wo.2.2.2.1) (by decide) dX9_strokes_1 ?_
  refine lv_aload_n cx.1 cx.2.1 dX9_strokes_4 rfl (lv_at hl 0 rfl) ?_
  refine r_getR cx wo ad_1.1 ad_1.2.1 ad_1.2.2 fiX9_26 (fn_1_2 wo.2.2.2.1) (by decide) dX9_strokes_5 ?_
  obtain ⟨q1, e2, hf⟩ := bd_elim hf
  refine r_Vv (rest := []) cx wo (mX4_copyFrom l (by decide) (by decide) e2) cvX9_190 rfl ad_11.1 ad_11.2.1 ad_11.2.2 rfl rfl hl.1 rfl (Nat.le_of_ble_eq_true rfl) (hR_ok (by decide)) dX9_strokes_8 (fun H locs wo => ?_)
  refine lv_aload_n cx.1 cx.2.1 dX9_strokes_11 rfl (lv_at hl 0 rfl) ?_
  refine lv_aload_n cx.1 cx.2.1 dX9_strokes_12 rfl (lv_at hl 0 rfl) ?_
  refine r_getR cx wo ad_1.1 ad_1.2.1 ad_1.2.2 fiX9_26 (fn_1_2 wo.2.2.2.1) (by decide) dX9_strokes_13 ?_
  refine lv_iload_n cx.1 cx.2.1 dX9_strokes_16 rfl (lv_at hl 1 rfl) ?_
  obtain ⟨q3, e4, hf⟩ := bd_elim hf
  refine r_Vi (rest := [.ref (B + 1)]) cx wo (mX4_setStrokes l (by decide) e4) cvX9_209 rfl ad_6.1 ad_6.2.1 ad_6.2.2 rfl rfl hl.1 rfl (Nat.le_of_ble_eq_true rfl) (hR_ok (by decide)) dX9_strokes_17 (fun H locs wo => ?_)
  obtain ⟨q5, e6, hf⟩ := bd_elim hf
  refine r_Vi (rest := []) cx wo (mX9_noted l e6) cvX9_196 rfl ad_1.1 ad_1.2.1 ad_1.2.2 rfl rfl hl.1 rfl (Nat.le_of_ble_eq_true rfl) (hR_ok (by decide)) dX9_strokes_20 (fun H locs wo => ?_)
  have hq := Option.some.inj hf
  subst hq
  exact r_iret cx wo hr hlk dX9_strokes_23
set_option maxHeartbeats 1000000 in
set_option maxRecDepth 10000 in
theorem mX9_actLength (l : Launch) {G : GG} {B : Nat} {x0 : Int32}  {M : Mem} {q : Int32 × Mem} (hf : fX9_actLength x0 M = some q) : Met l yX9_actLength (wsG yX9_actLength cX9_actLength 1 (some .int)) (rmN (2)) (PcW Ph G B 205 M [.int x0]) (QcI Ph G B 205 q.1 q.2) 0 0 (fr B) := by
  refine mk_Met (own := RX9) rfl rfl (Nat.le_of_ble_eq_true rfl) ?_
  intro p e s m below meth c ls cx hr hlk wo hl
  have hl : lv_has ls 1 [(0, .int x0)] := hl
  unfold fX9_actLength at hf
  refine lv_iload_n cx.1 cx.2.1 dX9_actLength_0 rfl (lv_at hl 0 rfl) ?_
  by_cases c1 : x0 = 103
  · refine r_tin (tgt := 70) cx c1 dX9_actLength_1 (by decide) (by decide) rfl (by decide) ?_
    rw [if_pos c1] at hf
    refine lv_iconst (v := 3) cx.1 cx.2.1 dX9_actLength_70 (by decide) ?_
    have hq := Option.some.inj hf
    subst hq
    exact r_iret cx wo hr hlk dX9_actLength_71
  · rw [if_neg c1] at hf
    by_cases c2 : x0 = 104
    · refine r_tin (tgt := 72) cx c2 dX9_actLength_1 (by decide) (by decide) rfl (by decide) ?_
      rw [if_pos c2] at hf
      refine lv_iconst (v := 0) cx.1 cx.2.1 dX9_actLength_72 (by decide) ?_
      have hq := Option.some.inj hf
      subst hq
      exact r_iret cx wo hr hlk dX9_actLength_73
    · rw [if_neg c2] at hf
      by_cases c3 : x0 = 105
      · refine r_tin (tgt := 72) cx c3 dX9_actLength_1 (by decide) (by decide) rfl (by decide) ?_
        rw [if_pos c3] at hf
        refine lv_iconst (v := 0) cx.1 cx.2.1 dX9_actLength_72 (by decide) ?_
        have hq := Option.some.inj hf
        subst hq
        exact r_iret cx wo hr hlk dX9_actLength_73
      · rw [if_neg c3] at hf
        by_cases c4 : x0 = 106
        · refine r_tin (tgt := 72) cx c4 dX9_actLength_1 (by decide) (by decide) rfl (by decide) ?_
          rw [if_pos c4] at hf
          refine lv_iconst (v := 0) cx.1 cx.2.1 dX9_actLength_72 (by decide) ?_
          have hq := Option.some.inj hf
          subst hq
          exact r_iret cx wo hr hlk dX9_actLength_73
        · rw [if_neg c4] at hf
          by_cases c5 : x0 = 107
          · refine r_tin (tgt := 70) cx c5 dX9_actLength_1 (by decide) (by decide) rfl (by decide) ?_
            rw [if_pos c5] at hf
            refine lv_iconst (v := 3) cx.1 cx.2.1 dX9_actLength_70 (by decide) ?_
            have hq := Option.some.inj hf
            subst hq
            exact r_iret cx wo hr hlk dX9_actLength_71
          · rw [if_neg c5] at hf
            by_cases c6 : x0 = 108
            · refine r_tin (tgt := 72) cx c6 dX9_actLength_1 (by decide) (by decide) rfl (by decide) ?_
              rw [if_pos c6] at hf
              refine lv_iconst (v := 0) cx.1 cx.2.1 dX9_actLength_72 (by decide) ?_
              have hq := Option.some.inj hf
              subst hq
              exact r_iret cx wo hr hlk dX9_actLength_73
            · rw [if_neg c6] at hf
              by_cases c7 : x0 = 109
              · refine r_tin (tgt := 72) cx c7 dX9_actLength_1 (by decide) (by decide) rfl (by decide) ?_
                rw [if_pos c7] at hf
                refine lv_iconst (v := 0) cx.1 cx.2.1 dX9_actLength_72 (by decide) ?_
                have hq := Option.some.inj hf
                subst hq
                exact r_iret cx wo hr hlk dX9_actLength_73
              · rw [if_neg c7] at hf
                by_cases c8 : x0 = 110
                · refine r_tin (tgt := 68) cx c8 dX9_actLength_1 (by decide) (by decide) rfl (by decide) ?_
                  rw [if_pos c8] at hf
                  refine lv_iconst (v := 2) cx.1 cx.2.1 dX9_actLength_68 (by decide) ?_
                  have hq := Option.some.inj hf
                  subst hq
                  exact r_iret cx wo hr hlk dX9_actLength_69
                · rw [if_neg c8] at hf
                  by_cases c9 : x0 = 111
                  · refine r_tin (tgt := 72) cx c9 dX9_actLength_1 (by decide) (by decide) rfl (by decide) ?_
                    rw [if_pos c9] at hf
                    refine lv_iconst (v := 0) cx.1 cx.2.1 dX9_actLength_72 (by decide) ?_
                    have hq := Option.some.inj hf
                    subst hq
                    exact r_iret cx wo hr hlk dX9_actLength_73
                  · rw [if_neg c9] at hf
                    by_cases c10 : x0 = 112
                    · refine r_tin (tgt := 70) cx c10 dX9_actLength_1 (by decide) (by decide) rfl (by decide) ?_
                      rw [if_pos c10] at hf
                      refine lv_iconst (v := 3) cx.1 cx.2.1 dX9_actLength_70 (by decide) ?_
                      have hq := Option.some.inj hf
                      subst hq
                      exact r_iret cx wo hr hlk dX9_actLength_71
                    · rw [if_neg c10] at hf
                      by_cases c11 : x0 = 113
                      · refine r_tin (tgt := 72) cx c11 dX9_actLength_1 (by decide) (by decide) rfl (by decide) ?_
                        rw [if_pos c11] at hf
                        refine lv_iconst (v := 0) cx.1 cx.2.1 dX9_actLength_72 (by decide) ?_
                        have hq := Option.some.inj hf
                        subst hq
                        exact r_iret cx wo hr hlk dX9_actLength_73
                      · rw [if_neg c11] at hf
                        by_cases c12 : x0 = 114
                        · refine r_tin (tgt := 68) cx c12 dX9_actLength_1 (by decide) (by decide) rfl (by decide) ?_
                          rw [if_pos c12] at hf
                          refine lv_iconst (v := 2) cx.1 cx.2.1 dX9_actLength_68 (by decide) ?_
                          have hq := Option.some.inj hf
                          subst hq
                          exact r_iret cx wo hr hlk dX9_actLength_69
                        · rw [if_neg c12] at hf
                          by_cases c13 : x0 = 115
                          · refine r_tin (tgt := 68) cx c13 dX9_actLength_1 (by decide) (by decide) rfl (by decide) ?_
                            rw [if_pos c13] at hf
                            refine lv_iconst (v := 2) cx.1 cx.2.1 dX9_actLength_68 (by decide) ?_
                            have hq := Option.some.inj hf
                            subst hq
                            exact r_iret cx wo hr hlk dX9_actLength_69
                          · rw [if_neg c13] at hf
                            have nc1 := i_ne (n := 103) c1 (by decide)
                            have mc1 : ¬ (103 : Int) = x0.toInt := fun h => nc1 h.symm
                            have nc2 := i_ne (n := 104) c2 (by decide)
                            have mc2 : ¬ (104 : Int) = x0.toInt := fun h => nc2 h.symm
                            have nc3 := i_ne (n := 105) c3 (by decide)
                            have mc3 : ¬ (105 : Int) = x0.toInt := fun h => nc3 h.symm
                            have nc4 := i_ne (n := 106) c4 (by decide)
                            have mc4 : ¬ (106 : Int) = x0.toInt := fun h => nc4 h.symm
                            have nc5 := i_ne (n := 107) c5 (by decide)
                            have mc5 : ¬ (107 : Int) = x0.toInt := fun h => nc5 h.symm
                            have nc6 := i_ne (n := 108) c6 (by decide)
                            have mc6 : ¬ (108 : Int) = x0.toInt := fun h => nc6 h.symm
                            have nc7 := i_ne (n := 109) c7 (by decide)
                            have mc7 : ¬ (109 : Int) = x0.toInt := fun h => nc7 h.symm
                            have nc8 := i_ne (n := 110) c8 (by decide)
                            have mc8 : ¬ (110 : Int) = x0.toInt := fun h => nc8 h.symm
                            have nc9 := i_ne (n := 111) c9 (by decide)
                            have mc9 : ¬ (111 : Int) = x0.toInt := fun h => nc9 h.symm
                            have nc10 := i_ne (n := 112) c10 (by decide)
                            have mc10 : ¬ (112 : Int) = x0.toInt := fun h => nc10 h.symm
                            have nc11 := i_ne (n := 113) c11 (by decide)
                            have mc11 : ¬ (113 : Int) = x0.toInt := fun h => nc11 h.symm
                            have nc12 := i_ne (n := 114) c12 (by decide)
                            have mc12 : ¬ (114 : Int) = x0.toInt := fun h => nc12 h.symm
                            have nc13 := i_ne (n := 115) c13 (by decide)
                            have mc13 : ¬ (115 : Int) = x0.toInt := fun h => nc13 h.symm
                            refine lv_tableOut (tgt := 72) cx.1 cx.2.1 dX9_actLength_1 (by omega) (by decide) ?_
                            refine lv_iconst (v := 0) cx.1 cx.2.1 dX9_actLength_72 (by decide) ?_
                            have hq := Option.some.inj hf
                            subst hq
                            exact r_iret cx wo hr hlk dX9_actLength_73
set_option maxHeartbeats 1000000 in
set_option maxRecDepth 10000 in
theorem wX9_weekFault_83 (cx : Cx p s m args c cX9_weekFault 6 RX9 G) (hr : meth.sig.returnType = (some .int)) (hlk : meth.locks = false) {k53 : Int32 → Int32 → Int32 → Int32 → Mem → Option (Int32 × Mem)} (hk53 : ∀ (x1 : Int32) (x2 : Int32) (x3 : Int32) (x4 : Int32)  (M : Mem) (q : Int32 × Mem), k53 x1 x2 x3 x4 M = some q → ∀ (H : Heap) (locs : List Loc) (ls : Array Slot), Wo Ph G B 205 s M H locs → lv_has ls 6 [(0, .ref (B + 1)), (1, .int x1), (2, .int x2), (3, .int x3), (4, .int x4)] → W p l e (rmN (4)) s m args below meth c H locs 0 0 (MQ below (QcI Ph G B 205 q.1 q.2) args s 0 0 (fr B)) (F0 m 53 ls [])) : ∀ (x1 : Int32) (x2 : Int32) (x3 : Int32) (x4 : Int32) (s0 : Int32)  (M : Mem) (q : Int32 × Mem), fX9_weekFault_83 k53 x1 x2 x3 x4 s0 M = some q → ∀ (H : Heap) (locs : List Loc) (ls : Array Slot), Wo Ph G B 205 s M H locs → lv_has ls 6 [(0, .ref (B + 1)), (1, .int x1), (2, .int x2), (3, .int x3), (4, .int x4)] → W p l e (rmN (4)) s m args below meth c H locs 0 0 (MQ below (QcI Ph G B 205 q.1 q.2) args s 0 0 (fr B)) (F0 m 83 ls [.int s0]) := by
  intro x1 x2 x3 x4 s0 M q hf H locs ls wo hl
  unfold fX9_weekFault_83 at hf
  refine lv_istore (lv' := [(5, .int s0), (0, .ref (B + 1)), (1, .int x1), (2, .int x2), (3, .int x3), (4, .int x4)]) cx.1 cx.2.1 dX9_weekFault_83 hl (by decide) rfl (fun ls hl => ?_)
  refine lv_iload cx.1 cx.2.1 dX9_weekFault_85 (lv_at hl 0 rfl) ?_
  refine lv_if_lt (tgt := 115) cx.1 cx.2.1 dX9_weekFault_87 (by decide) (fun c16 => ?_) (fun c16 => ?_)
  · rw [if_pos c16] at hf
    refine lv_iload_n cx.1 cx.2.1 dX9_weekFault_115 rfl (lv_at hl 2 rfl) ?_
    refine lv_iload cx.1 cx.2.1 dX9_weekFault_116 (lv_at hl 5 rfl) ?_
    refine lv_iadd cx.1 cx.2.1 dX9_weekFault_118 ?_
    have hq := Option.some.inj hf
    subst hq
    exact r_iret cx wo hr hlk dX9_weekFault_119
  · rw [if_neg c16] at hf
    refine lv_iload cx.1 cx.2.1 dX9_weekFault_90 (lv_at hl 0 rfl) ?_
    refine lv_if_ne (tgt := 120) cx.1 cx.2.1 dX9_weekFault_92 (by decide) (fun c17 => ?_) (fun c17 => ?_)
    · rw [if_neg c17] at hf
      obtain ⟨y18, e19, hf⟩ := lt_elim hf
      refine lv_iinc (v := y18) (lv' := [(4, .int y18), (5, .int s0), (0, .ref (B + 1)), (1, .int x1), (2, .int x2), (3, .int x3)]) cx.1 cx.2.1 dX9_weekFault_120 hl (k := 5) rfl (by rw [e19]; rfl) (by decide) rfl (fun ls hl => ?_)
      refine lv_goto (tgt := 53) cx.1 cx.2.1 dX9_weekFault_123 (by decide) ?_
      exact hk53 _ _ _ _ _ _ hf _ _ _ wo (lv_sub hl [2, 3, 4, 5, 0] rfl)
    · rw [if_pos c17] at hf
      refine lv_iload cx.1 cx.2.1 dX9_weekFault_95 (lv_at hl 5 rfl) ?_
      refine lv_iconst (v := 2) cx.1 cx.2.1 dX9_weekFault_97 (by decide) ?_
      refine lv_icmp_ne (tgt := 120) cx.1 cx.2.1 dX9_weekFault_98 (by decide) (fun c20 => ?_) (fun c20 => ?_)
      · rw [if_neg c20] at hf
        obtain ⟨y21, e22, hf⟩ := lt_elim hf
        refine lv_iinc (v := y21) (lv' := [(4, .int y21), (5, .int s0), (0, .ref (B + 1)), (1, .int x1), (2, .int x2), (3, .int x3)]) cx.1 cx.2.1 dX9_weekFault_120 hl (k := 5) rfl (by rw [e22]; rfl) (by decide) rfl (fun ls hl => ?_)
        refine lv_goto (tgt := 53) cx.1 cx.2.1 dX9_weekFault_123 (by decide) ?_
        exact hk53 _ _ _ _ _ _ hf _ _ _ wo (lv_sub hl [2, 3, 4, 5, 0] rfl)
      · rw [if_pos c20] at hf
        refine lv_aload_n cx.1 cx.2.1 dX9_weekFault_101 rfl (lv_at hl 1 rfl) ?_
        refine r_getR cx wo ad_1.1 ad_1.2.1 ad_1.2.2 fiX9_10 (fn_1_0 wo.2.2.2.1) (by decide) dX9_weekFault_102 ?_
        refine r_getR cx wo ad_2.1 ad_2.2.1 ad_2.2.2 fiX9_218 (fn_2_0 wo.2.2.2.1) (by decide) dX9_weekFault_105 ?_
        refine lv_iload_n cx.1 cx.2.1 dX9_weekFault_108 rfl (lv_at hl 2 rfl) ?_
        obtain ⟨g23, hf⟩ := gd_elim hf
        refine r_iald cx wo ad_3.1 ad_3.2.1 ad_3.2.2 (by rw [ln_3]; exact g23) dX9_weekFault_109 ?_
        refine lv_bipush (v := 112) cx.1 cx.2.1 dX9_weekFault_110 (by decide) ?_
        refine lv_icmp_ne (tgt := 120) cx.1 cx.2.1 dX9_weekFault_112 (by decide) (fun c24 => ?_) (fun c24 => ?_)
        · rw [if_neg c24] at hf
          obtain ⟨y25, e26, hf⟩ := lt_elim hf
          refine lv_iinc (v := y25) (lv' := [(4, .int y25), (5, .int s0), (0, .ref (B + 1)), (1, .int x1), (2, .int x2), (3, .int x3)]) cx.1 cx.2.1 dX9_weekFault_120 hl (k := 5) rfl (by rw [e26]; rfl) (by decide) rfl (fun ls hl => ?_)
          refine lv_goto (tgt := 53) cx.1 cx.2.1 dX9_weekFault_123 (by decide) ?_
          exact hk53 _ _ _ _ _ _ hf _ _ _ wo (lv_sub hl [2, 3, 4, 5, 0] rfl)
        · rw [if_pos c24] at hf
          refine lv_iload_n cx.1 cx.2.1 dX9_weekFault_115 rfl (lv_at hl 2 rfl) ?_
          refine lv_iload cx.1 cx.2.1 dX9_weekFault_116 (lv_at hl 5 rfl) ?_
          refine lv_iadd cx.1 cx.2.1 dX9_weekFault_118 ?_
          have hq := Option.some.inj hf
          subst hq
          exact r_iret cx wo hr hlk dX9_weekFault_119
set_option maxHeartbeats 1000000 in
set_option maxRecDepth 10000 in
theorem wX9_weekFault_53 (cx : Cx p s m args c cX9_weekFault 6 RX9 G) (hr : meth.sig.returnType = (some .int)) (hlk : meth.locks = false) {k4 : Int32 → Int32 → Mem → Option (Int32 × Mem)} (hk4 : ∀ (x1 : Int32) (x2 : Int32)  (M : Mem) (q : Int32 × Mem), k4 x1 x2 M = some q → ∀ (H : Heap) (locs : List Loc) (ls : Array Slot), Wo Ph G B 205 s M H locs → lv_has ls 6 [(0, .ref (B + 1)), (1, .int x1), (2, .int x2)] → W p l e (rmN (4)) s m args below meth c H locs 0 0 (MQ below (QcI Ph G B 205 q.1 q.2) args s 0 0 (fr B)) (F0 m 4 ls [])) : ∀ (n : Nat) (x1 : Int32) (x2 : Int32) (x3 : Int32) (x4 : Int32)  (M : Mem) (q : Int32 × Mem), fX9_weekFault_53 k4 n x1 x2 x3 x4 M = some q → ∀ (H : Heap) (locs : List Loc) (ls : Array Slot), Wo Ph G B 205 s M H locs → lv_has ls 6 [(0, .ref (B + 1)), (1, .int x1), (2, .int x2), (3, .int x3), (4, .int x4)] → W p l e (rmN (4)) s m args below meth c H locs 0 0 (MQ below (QcI Ph G B 205 q.1 q.2) args s 0 0 (fr B)) (F0 m 53 ls []) := by
  intro n
  induction n with
  | zero =>
    intro x1 x2 x3 x4 M q hf H locs ls wo hl
    have hf : none = some q := hf
    cases hf
  | succ n ih =>
    intro x1 x2 x3 x4 M q hf H locs ls wo hl
    rw [fX9_weekFault_53] at hf
    refine lv_iload cx.1 cx.2.1 dX9_weekFault_53 (lv_at hl 4 rfl) ?_
    refine lv_iload_n cx.1 cx.2.1 dX9_weekFault_55 rfl (lv_at hl 3 rfl) ?_
    refine lv_icmp_ge (tgt := 126) cx.1 cx.2.1 dX9_weekFault_56 (by decide) (fun c8 => ?_) (fun c8 => ?_)
    · rw [if_pos c8] at hf
      refine lv_iload_n cx.1 cx.2.1 dX9_weekFault_126 rfl (lv_at hl 1 rfl) ?_
      refine lv_iload_n cx.1 cx.2.1 dX9_weekFault_127 rfl (lv_at hl 3 rfl) ?_
      refine lv_iadd cx.1 cx.2.1 dX9_weekFault_128 ?_
      obtain ⟨y9, e10, hf⟩ := lt_elim hf
      refine r_topi e10 ?_
      refine lv_istore_n (lv' := [(1, .int y9), (0, .ref (B + 1)), (2, .int x2), (3, .int x3), (4, .int x4)]) cx.1 cx.2.1 dX9_weekFault_129 rfl hl (by decide) rfl (fun ls hl => ?_)
      obtain ⟨y11, e12, hf⟩ := lt_elim hf
      refine lv_iinc (v := y11) (lv' := [(2, .int y11), (1, .int y9), (0, .ref (B + 1)), (3, .int x3), (4, .int x4)]) cx.1 cx.2.1 dX9_weekFault_130 hl (k := 2) rfl (by rw [e12]; rfl) (by decide) rfl (fun ls hl => ?_)
      refine lv_goto (tgt := 4) cx.1 cx.2.1 dX9_weekFault_133 (by decide) ?_
      exact hk4 _ _ _ _ hf _ _ _ wo (lv_sub hl [2, 1, 0] rfl)
    · rw [if_neg c8] at hf
      refine lv_iload_n cx.1 cx.2.1 dX9_weekFault_59 rfl (lv_at hl 1 rfl) ?_
      refine lv_iload cx.1 cx.2.1 dX9_weekFault_60 (lv_at hl 4 rfl) ?_
      refine lv_iadd cx.1 cx.2.1 dX9_weekFault_62 ?_
      refine lv_bipush (v := 60) cx.1 cx.2.1 dX9_weekFault_63 (by decide) ?_
      refine lv_icmp_ge (tgt := 82) cx.1 cx.2.1 dX9_weekFault_65 (by decide) (fun c13 => ?_) (fun c13 => ?_)
      · rw [if_pos c13] at hf
        refine lv_iconst (v := (-1)) cx.1 cx.2.1 dX9_weekFault_82 (by decide) ?_
        exact wX9_weekFault_83 cx hr hlk ih _ _ _ _ _ _ _ hf _ _ _ wo (lv_sub hl [0, 1, 2, 3, 4] rfl)
      · rw [if_neg c13] at hf
        refine lv_aload_n cx.1 cx.2.1 dX9_weekFault_68 rfl (lv_at hl 0 rfl) ?_
        refine r_getR cx wo ad_1.1 ad_1.2.1 ad_1.2.2 fiX9_10 (fn_1_0 wo.2.2.2.1) (by decide) dX9_weekFault_69 ?_
        refine lv_iload_n cx.1 cx.2.1 dX9_weekFault_72 rfl (lv_at hl 1 rfl) ?_
        refine lv_iload cx.1 cx.2.1 dX9_weekFault_73 (lv_at hl 4 rfl) ?_
        refine lv_iadd cx.1 cx.2.1 dX9_weekFault_75 ?_
        obtain ⟨q14, e15, hf⟩ := bd_elim hf
        refine r_Vi (rest := []) cx wo (mX8_digitAt l e15) cvX9_119 rfl ad_2.1 ad_2.2.1 ad_2.2.2 rfl rfl hl.1 rfl (Nat.le_of_ble_eq_true rfl) (hR_ok (by decide)) dX9_weekFault_76 (fun H locs wo => ?_)
        refine lv_goto (tgt := 83) cx.1 cx.2.1 dX9_weekFault_79 (by decide) ?_
        exact wX9_weekFault_83 cx hr hlk ih _ _ _ _ _ _ _ hf _ _ _ wo (lv_sub hl [0, 1, 2, 3, 4] rfl)
set_option maxHeartbeats 1000000 in
set_option maxRecDepth 10000 in
theorem wX9_weekFault_43 (cx : Cx p s m args c cX9_weekFault 6 RX9 G) (hr : meth.sig.returnType = (some .int)) (hlk : meth.locks = false) {k4 : Int32 → Int32 → Mem → Option (Int32 × Mem)} (hk4 : ∀ (x1 : Int32) (x2 : Int32)  (M : Mem) (q : Int32 × Mem), k4 x1 x2 M = some q → ∀ (H : Heap) (locs : List Loc) (ls : Array Slot), Wo Ph G B 205 s M H locs → lv_has ls 6 [(0, .ref (B + 1)), (1, .int x1), (2, .int x2)] → W p l e (rmN (4)) s m args below meth c H locs 0 0 (MQ below (QcI Ph G B 205 q.1 q.2) args s 0 0 (fr B)) (F0 m 4 ls [])) : ∀ (x1 : Int32) (x2 : Int32) (s0 : Int32)  (M : Mem) (q : Int32 × Mem), fX9_weekFault_43 k4 x1 x2 s0 M = some q → ∀ (H : Heap) (locs : List Loc) (ls : Array Slot), Wo Ph G B 205 s M H locs → lv_has ls 6 [(0, .ref (B + 1)), (1, .int x1), (2, .int x2)] → W p l e (rmN (4)) s m args below meth c H locs 0 0 (MQ below (QcI Ph G B 205 q.1 q.2) args s 0 0 (fr B)) (F0 m 43 ls [.int s0]) := by
  intro x1 x2 s0 M q hf H locs ls wo hl
  unfold fX9_weekFault_43 at hf
  refine lv_istore_n (lv' := [(3, .int s0), (0, .ref (B + 1)), (1, .int x1), (2, .int x2)]) cx.1 cx.2.1 dX9_weekFault_43 rfl hl (by decide) rfl (fun ls hl => ?_)
  refine lv_iload_n cx.1 cx.2.1 dX9_weekFault_44 rfl (lv_at hl 0 rfl) ?_
  refine lv_if_ne (tgt := 50) cx.1 cx.2.1 dX9_weekFault_45 (by decide) (fun c7 => ?_) (fun c7 => ?_)
  · rw [if_neg c7] at hf
    refine lv_iconst (v := 1) cx.1 cx.2.1 dX9_weekFault_50 (by decide) ?_
    refine lv_istore (lv' := [(4, .int 1), (3, .int s0), (0, .ref (B + 1)), (1, .int x1), (2, .int x2)]) cx.1 cx.2.1 dX9_weekFault_51 hl (by decide) rfl (fun ls hl => ?_)
    exact wX9_weekFault_53 cx hr hlk hk4 _ _ _ _ _ _ _ hf _ _ _ wo (lv_sub hl [2, 3, 4, 1, 0] rfl)
  · rw [if_pos c7] at hf
    refine lv_iload_n cx.1 cx.2.1 dX9_weekFault_48 rfl (lv_at hl 2 rfl) ?_
    have hq := Option.some.inj hf
    subst hq
    exact r_iret cx wo hr hlk dX9_weekFault_49
set_option maxHeartbeats 1000000 in
set_option maxRecDepth 10000 in
theorem wX9_weekFault_4 (cx : Cx p s m args c cX9_weekFault 6 RX9 G) (hr : meth.sig.returnType = (some .int)) (hlk : meth.locks = false) : ∀ (n : Nat) (x1 : Int32) (x2 : Int32)  (M : Mem) (q : Int32 × Mem), fX9_weekFault_4 n x1 x2 M = some q → ∀ (H : Heap) (locs : List Loc) (ls : Array Slot), Wo Ph G B 205 s M H locs → lv_has ls 6 [(0, .ref (B + 1)), (1, .int x1), (2, .int x2)] → W p l e (rmN (4)) s m args below meth c H locs 0 0 (MQ below (QcI Ph G B 205 q.1 q.2) args s 0 0 (fr B)) (F0 m 4 ls []) := by
  intro n
  induction n with
  | zero =>
    intro x1 x2 M q hf H locs ls wo hl
    have hf : none = some q := hf
    cases hf
  | succ n ih =>
    intro x1 x2 M q hf H locs ls wo hl
    rw [fX9_weekFault_4] at hf
    refine lv_iload_n cx.1 cx.2.1 dX9_weekFault_4 rfl (lv_at hl 2 rfl) ?_
    refine lv_bipush (v := 80) cx.1 cx.2.1 dX9_weekFault_5 (by decide) ?_
    refine lv_icmp_ge (tgt := 136) cx.1 cx.2.1 dX9_weekFault_7 (by decide) (fun c1 => ?_) (fun c1 => ?_)
    · rw [if_pos c1] at hf
      refine lv_iconst (v := (-1)) cx.1 cx.2.1 dX9_weekFault_136 (by decide) ?_
      have hq := Option.some.inj hf
      subst hq
      exact r_iret cx wo hr hlk dX9_weekFault_137
    · rw [if_neg c1] at hf
      refine lv_iload_n cx.1 cx.2.1 dX9_weekFault_10 rfl (lv_at hl 1 rfl) ?_
      refine lv_aload_n cx.1 cx.2.1 dX9_weekFault_11 rfl (lv_at hl 0 rfl) ?_
      refine r_getR cx wo ad_1.1 ad_1.2.1 ad_1.2.2 fiX9_10 (fn_1_0 wo.2.2.2.1) (by decide) dX9_weekFault_12 ?_
      refine r_getI cx wo ad_2.1 ad_2.2.1 ad_2.2.2 fiX9_107 dX9_weekFault_15 ?_
      refine lv_icmp_ge (tgt := 136) cx.1 cx.2.1 dX9_weekFault_18 (by decide) (fun c2 => ?_) (fun c2 => ?_)
      · rw [if_pos c2] at hf
        refine lv_iconst (v := (-1)) cx.1 cx.2.1 dX9_weekFault_136 (by decide) ?_
        have hq := Option.some.inj hf
        subst hq
        exact r_iret cx wo hr hlk dX9_weekFault_137
      · rw [if_neg c2] at hf
        refine lv_iload_n cx.1 cx.2.1 dX9_weekFault_21 rfl (lv_at hl 1 rfl) ?_
        refine lv_bipush (v := 60) cx.1 cx.2.1 dX9_weekFault_22 (by decide) ?_
        refine lv_icmp_ge (tgt := 42) cx.1 cx.2.1 dX9_weekFault_24 (by decide) (fun c3 => ?_) (fun c3 => ?_)
        · rw [if_pos c3] at hf
          refine lv_iconst (v := 0) cx.1 cx.2.1 dX9_weekFault_42 (by decide) ?_
          exact wX9_weekFault_43 cx hr hlk ih _ _ _ _ _ hf _ _ _ wo (lv_sub hl [0, 1, 2] rfl)
        · rw [if_neg c3] at hf
          refine lv_aload_n cx.1 cx.2.1 dX9_weekFault_27 rfl (lv_at hl 0 rfl) ?_
          refine r_getR cx wo ad_1.1 ad_1.2.1 ad_1.2.2 fiX9_10 (fn_1_0 wo.2.2.2.1) (by decide) dX9_weekFault_28 ?_
          refine r_getR cx wo ad_2.1 ad_2.2.1 ad_2.2.2 fiX9_218 (fn_2_0 wo.2.2.2.1) (by decide) dX9_weekFault_31 ?_
          refine lv_iload_n cx.1 cx.2.1 dX9_weekFault_34 rfl (lv_at hl 1 rfl) ?_
          obtain ⟨g4, hf⟩ := gd_elim hf
          refine r_iald cx wo ad_3.1 ad_3.2.1 ad_3.2.2 (by rw [ln_3]; exact g4) dX9_weekFault_35 ?_
          obtain ⟨q5, e6, hf⟩ := bd_elim hf
          refine r_Si (rest := []) cx wo (mX9_actLength l e6) csX9_221 rfl hl.1 rfl (Nat.le_of_ble_eq_true rfl) (hR_ok (by decide)) dX9_weekFault_36 (fun H locs wo => ?_)
          refine lv_goto (tgt := 43) cx.1 cx.2.1 dX9_weekFault_39 (by decide) ?_
          exact wX9_weekFault_43 cx hr hlk ih _ _ _ _ _ hf _ _ _ wo (lv_sub hl [0, 1, 2] rfl)
set_option maxHeartbeats 1000000 in
set_option maxRecDepth 10000 in
theorem mX9_weekFault (l : Launch) {G : GG} {B : Nat}   {M : Mem} {q : Int32 × Mem} (hf : fX9_weekFault  M = some q) : Met l yX9_weekFault (wsG yX9_weekFault cX9_weekFault 6 (some .int)) (rmN (4)) (PcW Ph G B 205 M [.ref (B + 1)]) (QcI Ph G B 205 q.1 q.2) 0 0 (fr B) := by
  refine mk_Met (own := RX9) rfl rfl (Nat.le_of_ble_eq_true rfl) ?_
  intro p e s m below meth c ls cx hr hlk wo hl
  have hl : lv_has ls 6 [(0, .ref (B + 1))] := hl
  unfold fX9_weekFault at hf
  refine lv_iconst (v := 0) cx.1 cx.2.1 dX9_weekFault_0 (by decide) ?_
  refine lv_istore_n (lv' := [(1, .int 0), (0, .ref (B + 1))]) cx.1 cx.2.1 dX9_weekFault_1 rfl hl (by decide) rfl (fun ls hl => ?_)
  refine lv_iconst (v := 0) cx.1 cx.2.1 dX9_weekFault_2 (by decide) ?_
  refine lv_istore_n (lv' := [(2, .int 0), (1, .int 0), (0, .ref (B + 1))]) cx.1 cx.2.1 dX9_weekFault_3 rfl hl (by decide) rfl (fun ls hl => ?_)
  exact wX9_weekFault_4 cx hr hlk _ _ _ _ _ hf _ _ _ wo (lv_sub hl [2, 1, 0] rfl)
set_option maxHeartbeats 1000000 in
set_option maxRecDepth 10000 in
theorem wX9_doAct_186 (cx : Cx p s m args c cX9_doAct 4 RX9 G) (hr : meth.sig.returnType = (some .boolean)) (hlk : meth.locks = false) : ∀ (x2 : Int32) (x3 : Int32)  (M : Mem) (q : Int32 × Mem), fX9_doAct_186 x2 x3 M = some q → ∀ (H : Heap) (locs : List Loc) (ls : Array Slot), Wo Ph G B 205 s M H locs → lv_has ls 4 [(0, .ref (B + 1)), (2, .int x2), (3, .int x3)] → W p l e (rmN (8)) s m args below meth c H locs 0 0 (MQ below (QcI Ph G B 205 q.1 q.2) args s 0 0 (fr B)) (F0 m 186 ls []) := by
  intro x2 x3 M q hf H locs ls wo hl
  unfold fX9_doAct_186 at hf
  refine lv_aload_n cx.1 cx.2.1 dX9_doAct_186 rfl (lv_at hl 0 rfl) ?_
  refine r_getR cx wo ad_1.1 ad_1.2.1 ad_1.2.2 fiX9_26 (fn_1_2 wo.2.2.2.1) (by decide) dX9_doAct_187 ?_
  refine lv_bipush (v := 10) cx.1 cx.2.1 dX9_doAct_190 (by decide) ?_
  refine lv_iload_n cx.1 cx.2.1 dX9_doAct_192 rfl (lv_at hl 1 rfl) ?_
  refine lv_imul cx.1 cx.2.1 dX9_doAct_193 ?_
  refine lv_iload_n cx.1 cx.2.1 dX9_doAct_194 rfl (lv_at hl 2 rfl) ?_
  refine lv_iadd cx.1 cx.2.1 dX9_doAct_195 ?_
  obtain ⟨q36, e37, hf⟩ := bd_elim hf
  refine r_Vi (rest := []) cx wo (mX4_setStrokes l (by decide) e37) cvX9_209 rfl ad_6.1 ad_6.2.1 ad_6.2.2 rfl rfl hl.1 rfl (Nat.le_of_ble_eq_true rfl) (hR_ok (by decide)) dX9_doAct_196 (fun H locs wo => ?_)
  refine lv_if_lt (tgt := 206) cx.1 cx.2.1 dX9_doAct_199 (by decide) (fun c38 => ?_) (fun c38 => ?_)
  · rw [if_pos c38] at hf
    refine lv_iconst (v := 0) cx.1 cx.2.1 dX9_doAct_206 (by decide) ?_
    have hq := Option.some.inj hf
    subst hq
    exact r_zret cx wo hr hlk (Or.inl rfl) dX9_doAct_207
  · rw [if_neg c38] at hf
    refine lv_iconst (v := 1) cx.1 cx.2.1 dX9_doAct_202 (by decide) ?_
    refine lv_goto (tgt := 207) cx.1 cx.2.1 dX9_doAct_203 (by decide) ?_
    have hq := Option.some.inj hf
    subst hq
    exact r_zret cx wo hr hlk (Or.inr rfl) dX9_doAct_207
set_option maxHeartbeats 1000000 in
set_option maxRecDepth 10000 in
theorem mX9_doAct (l : Launch) {G : GG} {B : Nat} {x1 : Int32}  {M : Mem} {q : Int32 × Mem} (hf : fX9_doAct x1 M = some q) : Met l yX9_doAct (wsG yX9_doAct cX9_doAct 4 (some .boolean)) (rmN (8)) (PcW Ph G B 205 M [.ref (B + 1), .int x1]) (QcI Ph G B 205 q.1 q.2) 0 0 (fr B) := by
  refine mk_Met (own := RX9) rfl rfl (Nat.le_of_ble_eq_true rfl) ?_
  intro p e s m below meth c ls cx hr hlk wo hl
  have hl : lv_has ls 4 [(0, .ref (B + 1)), (1, .int x1)] := hl
  unfold fX9_doAct at hf
  refine lv_aload_n cx.1 cx.2.1 dX9_doAct_0 rfl (lv_at hl 0 rfl) ?_
  refine r_getR cx wo ad_1.1 ad_1.2.1 ad_1.2.2 fiX9_10 (fn_1_0 wo.2.2.2.1) (by decide) dX9_doAct_1 ?_
  refine lv_iload_n cx.1 cx.2.1 dX9_doAct_4 rfl (lv_at hl 1 rfl) ?_
  refine lv_iconst (v := 1) cx.1 cx.2.1 dX9_doAct_5 (by decide) ?_
  refine lv_iadd cx.1 cx.2.1 dX9_doAct_6 ?_
  obtain ⟨q1, e2, hf⟩ := bd_elim hf
  refine r_Vi (rest := []) cx wo (mX8_digitAt l e2) cvX9_119 rfl ad_2.1 ad_2.2.1 ad_2.2.2 rfl rfl hl.1 rfl (Nat.le_of_ble_eq_true rfl) (hR_ok (by decide)) dX9_doAct_7 (fun H locs wo => ?_)
  refine lv_istore_n (lv' := [(2, .int q1.1), (0, .ref (B + 1)), (1, .int x1)]) cx.1 cx.2.1 dX9_doAct_10 rfl hl (by decide) rfl (fun ls hl => ?_)
  refine lv_aload_n cx.1 cx.2.1 dX9_doAct_11 rfl (lv_at hl 1 rfl) ?_
  refine r_getR cx wo ad_1.1 ad_1.2.1 ad_1.2.2 fiX9_10 (fn_1_0 wo.2.2.2.1) (by decide) dX9_doAct_12 ?_
  refine lv_iload_n cx.1 cx.2.1 dX9_doAct_15 rfl (lv_at hl 2 rfl) ?_
  refine lv_iconst (v := 2) cx.1 cx.2.1 dX9_doAct_16 (by decide) ?_
  refine lv_iadd cx.1 cx.2.1 dX9_doAct_17 ?_
  obtain ⟨q3, e4, hf⟩ := bd_elim hf
  refine r_Vi (rest := []) cx wo (mX8_digitAt l e4) cvX9_119 rfl ad_2.1 ad_2.2.1 ad_2.2.2 rfl rfl hl.1 rfl (Nat.le_of_ble_eq_true rfl) (hR_ok (by decide)) dX9_doAct_18 (fun H locs wo => ?_)
  refine lv_istore_n (lv' := [(3, .int q3.1), (2, .int q1.1), (0, .ref (B + 1)), (1, .int x1)]) cx.1 cx.2.1 dX9_doAct_21 rfl hl (by decide) rfl (fun ls hl => ?_)
  refine lv_aload_n cx.1 cx.2.1 dX9_doAct_22 rfl (lv_at hl 2 rfl) ?_
  refine r_getR cx wo ad_1.1 ad_1.2.1 ad_1.2.2 fiX9_10 (fn_1_0 wo.2.2.2.1) (by decide) dX9_doAct_23 ?_
  refine r_getR cx wo ad_2.1 ad_2.2.1 ad_2.2.2 fiX9_218 (fn_2_0 wo.2.2.2.1) (by decide) dX9_doAct_26 ?_
  refine lv_iload_n cx.1 cx.2.1 dX9_doAct_29 rfl (lv_at hl 3 rfl) ?_
  obtain ⟨g5, hf⟩ := gd_elim hf
  refine r_iald cx wo ad_3.1 ad_3.2.1 ad_3.2.2 (by rw [ln_3]; exact g5) dX9_doAct_30 ?_
  obtain ⟨y6, e7, hf⟩ := lt_elim hf
  refine r_topi e7 ?_
  by_cases c8 : y6 = 103
  · refine r_tin (tgt := 164) cx c8 dX9_doAct_31 (by decide) (by decide) rfl (by decide) ?_
    rw [if_pos c8] at hf
    refine lv_aload_n cx.1 cx.2.1 dX9_doAct_164 rfl (lv_at hl 2 rfl) ?_
    refine r_getR cx wo ad_1.1 ad_1.2.1 ad_1.2.2 fiX9_26 (fn_1_2 wo.2.2.2.1) (by decide) dX9_doAct_165 ?_
    refine lv_bipush (v := 10) cx.1 cx.2.1 dX9_doAct_168 (by decide) ?_
    refine lv_iload_n cx.1 cx.2.1 dX9_doAct_170 rfl (lv_at hl 1 rfl) ?_
    refine lv_imul cx.1 cx.2.1 dX9_doAct_171 ?_
    refine lv_iload_n cx.1 cx.2.1 dX9_doAct_172 rfl (lv_at hl 0 rfl) ?_
    refine lv_iadd cx.1 cx.2.1 dX9_doAct_173 ?_
    obtain ⟨q9, e10, hf⟩ := bd_elim hf
    refine r_Vi (rest := []) cx wo (mX4_setGap l (by decide) e10) cvX9_206 rfl ad_6.1 ad_6.2.1 ad_6.2.2 rfl rfl hl.1 rfl (Nat.le_of_ble_eq_true rfl) (hR_ok (by decide)) dX9_doAct_174 (fun H locs wo => ?_)
    refine lv_if_lt (tgt := 184) cx.1 cx.2.1 dX9_doAct_177 (by decide) (fun c11 => ?_) (fun c11 => ?_)
    · rw [if_pos c11] at hf
      refine lv_iconst (v := 0) cx.1 cx.2.1 dX9_doAct_184 (by decide) ?_
      have hq := Option.some.inj hf
      subst hq
      exact r_zret cx wo hr hlk (Or.inl rfl) dX9_doAct_185
    · rw [if_neg c11] at hf
      refine lv_iconst (v := 1) cx.1 cx.2.1 dX9_doAct_180 (by decide) ?_
      refine lv_goto (tgt := 185) cx.1 cx.2.1 dX9_doAct_181 (by decide) ?_
      have hq := Option.some.inj hf
      subst hq
      exact r_zret cx wo hr hlk (Or.inr rfl) dX9_doAct_185
  · rw [if_neg c8] at hf
    by_cases c12 : y6 = 104
    · refine r_tin (tgt := 186) cx c12 dX9_doAct_31 (by decide) (by decide) rfl (by decide) ?_
      rw [if_pos c12] at hf
      exact wX9_doAct_186 cx hr hlk _ _ _ _ hf _ _ _ wo (lv_sub hl [2, 1, 0] rfl)
    · rw [if_neg c12] at hf
      by_cases c13 : y6 = 105
      · refine r_tin (tgt := 186) cx c13 dX9_doAct_31 (by decide) (by decide) rfl (by decide) ?_
        rw [if_pos c13] at hf
        exact wX9_doAct_186 cx hr hlk _ _ _ _ hf _ _ _ wo (lv_sub hl [2, 1, 0] rfl)
      · rw [if_neg c13] at hf
        by_cases c14 : y6 = 106
        · refine r_tin (tgt := 186) cx c14 dX9_doAct_31 (by decide) (by decide) rfl (by decide) ?_
          rw [if_pos c14] at hf
          exact wX9_doAct_186 cx hr hlk _ _ _ _ hf _ _ _ wo (lv_sub hl [2, 1, 0] rfl)
        · rw [if_neg c14] at hf
          by_cases c15 : y6 = 107
          · refine r_tin (tgt := 186) cx c15 dX9_doAct_31 (by decide) (by decide) rfl (by decide) ?_
            rw [if_pos c15] at hf
            exact wX9_doAct_186 cx hr hlk _ _ _ _ hf _ _ _ wo (lv_sub hl [2, 1, 0] rfl)
          · rw [if_neg c15] at hf
            by_cases c16 : y6 = 108
            · refine r_tin (tgt := 186) cx c16 dX9_doAct_31 (by decide) (by decide) rfl (by decide) ?_
              rw [if_pos c16] at hf
              exact wX9_doAct_186 cx hr hlk _ _ _ _ hf _ _ _ wo (lv_sub hl [2, 1, 0] rfl)
            · rw [if_neg c16] at hf
              by_cases c17 : y6 = 109
              · refine r_tin (tgt := 186) cx c17 dX9_doAct_31 (by decide) (by decide) rfl (by decide) ?_
                rw [if_pos c17] at hf
                exact wX9_doAct_186 cx hr hlk _ _ _ _ hf _ _ _ wo (lv_sub hl [2, 1, 0] rfl)
              · rw [if_neg c17] at hf
                by_cases c18 : y6 = 110
                · refine r_tin (tgt := 96) cx c18 dX9_doAct_31 (by decide) (by decide) rfl (by decide) ?_
                  rw [if_pos c18] at hf
                  refine lv_aload_n cx.1 cx.2.1 dX9_doAct_96 rfl (lv_at hl 2 rfl) ?_
                  refine lv_aload_n cx.1 cx.2.1 dX9_doAct_97 rfl (lv_at hl 2 rfl) ?_
                  refine r_getR cx wo ad_1.1 ad_1.2.1 ad_1.2.2 fiX9_26 (fn_1_2 wo.2.2.2.1) (by decide) dX9_doAct_98 ?_
                  refine lv_aload_n cx.1 cx.2.1 dX9_doAct_101 rfl (lv_at hl 2 rfl) ?_
                  have hm19 : q3.2.2.2 1 17 ∈ rules := wo.2.2.2.1.2.2.1
                  refine r_getR cx wo ad_1.1 ad_1.2.1 ad_1.2.2 fiX9_100 rfl (rul_ok _ hm19).1.1 dX9_doAct_102 ?_
                  refine lv_iload_n cx.1 cx.2.1 dX9_doAct_105 rfl (lv_at hl 1 rfl) ?_
                  obtain ⟨q20, e21, hf⟩ := bd_elim hf
                  refine r_Vi (rest := []) cx wo (mX9_passDays l (by decide) hm19 e21) cvX9_182 rfl ad_1.1 ad_1.2.1 ad_1.2.2 rfl rfl hl.1 rfl (Nat.le_of_ble_eq_true rfl) (hR_ok (by decide)) dX9_doAct_106 (fun H locs wo => ?_)
                  refine lv_pop cx.1 cx.2.1 dX9_doAct_109 rfl ?_
                  refine lv_iconst (v := 1) cx.1 cx.2.1 dX9_doAct_110 (by decide) ?_
                  have hq := Option.some.inj hf
                  subst hq
                  exact r_zret cx wo hr hlk (Or.inr rfl) dX9_doAct_111
                · rw [if_neg c18] at hf
                  by_cases c22 : y6 = 111
                  · refine r_tin (tgt := 186) cx c22 dX9_doAct_31 (by decide) (by decide) rfl (by decide) ?_
                    rw [if_pos c22] at hf
                    exact wX9_doAct_186 cx hr hlk _ _ _ _ hf _ _ _ wo (lv_sub hl [2, 1, 0] rfl)
                  · rw [if_neg c22] at hf
                    by_cases c23 : y6 = 112
                    · refine r_tin (tgt := 146) cx c23 dX9_doAct_31 (by decide) (by decide) rfl (by decide) ?_
                      rw [if_pos c23] at hf
                      refine lv_aload_n cx.1 cx.2.1 dX9_doAct_146 rfl (lv_at hl 2 rfl) ?_
                      refine r_getR cx wo ad_1.1 ad_1.2.1 ad_1.2.2 fiX9_26 (fn_1_2 wo.2.2.2.1) (by decide) dX9_doAct_147 ?_
                      refine lv_iload_n cx.1 cx.2.1 dX9_doAct_150 rfl (lv_at hl 1 rfl) ?_
                      refine lv_iload_n cx.1 cx.2.1 dX9_doAct_151 rfl (lv_at hl 0 rfl) ?_
                      obtain ⟨q24, e25, hf⟩ := bd_elim hf
                      refine r_Vi (rest := []) cx wo (mX4_setPace l (by decide) e25) cvX9_202 rfl ad_6.1 ad_6.2.1 ad_6.2.2 rfl rfl hl.1 rfl (Nat.le_of_ble_eq_true rfl) (hR_ok (by decide)) dX9_doAct_152 (fun H locs wo => ?_)
                      refine lv_if_lt (tgt := 162) cx.1 cx.2.1 dX9_doAct_155 (by decide) (fun c26 => ?_) (fun c26 => ?_)
                      · rw [if_pos c26] at hf
                        refine lv_iconst (v := 0) cx.1 cx.2.1 dX9_doAct_162 (by decide) ?_
                        have hq := Option.some.inj hf
                        subst hq
                        exact r_zret cx wo hr hlk (Or.inl rfl) dX9_doAct_163
                      · rw [if_neg c26] at hf
                        refine lv_iconst (v := 1) cx.1 cx.2.1 dX9_doAct_158 (by decide) ?_
                        refine lv_goto (tgt := 163) cx.1 cx.2.1 dX9_doAct_159 (by decide) ?_
                        have hq := Option.some.inj hf
                        subst hq
                        exact r_zret cx wo hr hlk (Or.inr rfl) dX9_doAct_163
                    · rw [if_neg c23] at hf
                      by_cases c27 : y6 = 113
                      · refine r_tin (tgt := 186) cx c27 dX9_doAct_31 (by decide) (by decide) rfl (by decide) ?_
                        rw [if_pos c27] at hf
                        exact wX9_doAct_186 cx hr hlk _ _ _ _ hf _ _ _ wo (lv_sub hl [2, 1, 0] rfl)
                      · rw [if_neg c27] at hf
                        by_cases c28 : y6 = 114
                        · refine r_tin (tgt := 129) cx c28 dX9_doAct_31 (by decide) (by decide) rfl (by decide) ?_
                          rw [if_pos c28] at hf
                          refine lv_aload_n cx.1 cx.2.1 dX9_doAct_129 rfl (lv_at hl 2 rfl) ?_
                          refine r_getR cx wo ad_1.1 ad_1.2.1 ad_1.2.2 fiX9_26 (fn_1_2 wo.2.2.2.1) (by decide) dX9_doAct_130 ?_
                          refine lv_iload_n cx.1 cx.2.1 dX9_doAct_133 rfl (lv_at hl 1 rfl) ?_
                          obtain ⟨q29, e30, hf⟩ := bd_elim hf
                          refine r_Vi (rest := []) cx wo (mX4_restBoat l (by decide) e30) cvX9_199 rfl ad_6.1 ad_6.2.1 ad_6.2.2 rfl rfl hl.1 rfl (Nat.le_of_ble_eq_true rfl) (hR_ok (by decide)) dX9_doAct_134 (fun H locs wo => ?_)
                          refine lv_if_lt (tgt := 144) cx.1 cx.2.1 dX9_doAct_137 (by decide) (fun c31 => ?_) (fun c31 => ?_)
                          · rw [if_pos c31] at hf
                            refine lv_iconst (v := 0) cx.1 cx.2.1 dX9_doAct_144 (by decide) ?_
                            have hq := Option.some.inj hf
                            subst hq
                            exact r_zret cx wo hr hlk (Or.inl rfl) dX9_doAct_145
                          · rw [if_neg c31] at hf
                            refine lv_iconst (v := 1) cx.1 cx.2.1 dX9_doAct_140 (by decide) ?_
                            refine lv_goto (tgt := 145) cx.1 cx.2.1 dX9_doAct_141 (by decide) ?_
                            have hq := Option.some.inj hf
                            subst hq
                            exact r_zret cx wo hr hlk (Or.inr rfl) dX9_doAct_145
                        · rw [if_neg c28] at hf
                          by_cases c32 : y6 = 115
                          · refine r_tin (tgt := 112) cx c32 dX9_doAct_31 (by decide) (by decide) rfl (by decide) ?_
                            rw [if_pos c32] at hf
                            refine lv_aload_n cx.1 cx.2.1 dX9_doAct_112 rfl (lv_at hl 2 rfl) ?_
                            refine r_getR cx wo ad_1.1 ad_1.2.1 ad_1.2.2 fiX9_26 (fn_1_2 wo.2.2.2.1) (by decide) dX9_doAct_113 ?_
                            refine lv_iload_n cx.1 cx.2.1 dX9_doAct_116 rfl (lv_at hl 1 rfl) ?_
                            obtain ⟨q33, e34, hf⟩ := bd_elim hf
                            refine r_Vi (rest := []) cx wo (mX4_moveToFoot l (by decide) e34) cvX9_193 rfl ad_6.1 ad_6.2.1 ad_6.2.2 rfl rfl hl.1 rfl (Nat.le_of_ble_eq_true rfl) (hR_ok (by decide)) dX9_doAct_117 (fun H locs wo => ?_)
                            refine lv_if_lt (tgt := 127) cx.1 cx.2.1 dX9_doAct_120 (by decide) (fun c35 => ?_) (fun c35 => ?_)
                            · rw [if_pos c35] at hf
                              refine lv_iconst (v := 0) cx.1 cx.2.1 dX9_doAct_127 (by decide) ?_
                              have hq := Option.some.inj hf
                              subst hq
                              exact r_zret cx wo hr hlk (Or.inl rfl) dX9_doAct_128
                            · rw [if_neg c35] at hf
                              refine lv_iconst (v := 1) cx.1 cx.2.1 dX9_doAct_123 (by decide) ?_
                              refine lv_goto (tgt := 128) cx.1 cx.2.1 dX9_doAct_124 (by decide) ?_
                              have hq := Option.some.inj hf
                              subst hq
                              exact r_zret cx wo hr hlk (Or.inr rfl) dX9_doAct_128
                          · rw [if_neg c32] at hf
                            have nc8 := i_ne (n := 103) c8 (by decide)
                            have mc8 : ¬ (103 : Int) = y6.toInt := fun h => nc8 h.symm
                            have nc12 := i_ne (n := 104) c12 (by decide)
                            have mc12 : ¬ (104 : Int) = y6.toInt := fun h => nc12 h.symm
                            have nc13 := i_ne (n := 105) c13 (by decide)
                            have mc13 : ¬ (105 : Int) = y6.toInt := fun h => nc13 h.symm
                            have nc14 := i_ne (n := 106) c14 (by decide)
                            have mc14 : ¬ (106 : Int) = y6.toInt := fun h => nc14 h.symm
                            have nc15 := i_ne (n := 107) c15 (by decide)
                            have mc15 : ¬ (107 : Int) = y6.toInt := fun h => nc15 h.symm
                            have nc16 := i_ne (n := 108) c16 (by decide)
                            have mc16 : ¬ (108 : Int) = y6.toInt := fun h => nc16 h.symm
                            have nc17 := i_ne (n := 109) c17 (by decide)
                            have mc17 : ¬ (109 : Int) = y6.toInt := fun h => nc17 h.symm
                            have nc18 := i_ne (n := 110) c18 (by decide)
                            have mc18 : ¬ (110 : Int) = y6.toInt := fun h => nc18 h.symm
                            have nc22 := i_ne (n := 111) c22 (by decide)
                            have mc22 : ¬ (111 : Int) = y6.toInt := fun h => nc22 h.symm
                            have nc23 := i_ne (n := 112) c23 (by decide)
                            have mc23 : ¬ (112 : Int) = y6.toInt := fun h => nc23 h.symm
                            have nc27 := i_ne (n := 113) c27 (by decide)
                            have mc27 : ¬ (113 : Int) = y6.toInt := fun h => nc27 h.symm
                            have nc28 := i_ne (n := 114) c28 (by decide)
                            have mc28 : ¬ (114 : Int) = y6.toInt := fun h => nc28 h.symm
                            have nc32 := i_ne (n := 115) c32 (by decide)
                            have mc32 : ¬ (115 : Int) = y6.toInt := fun h => nc32 h.symm
                            refine lv_tableOut (tgt := 186) cx.1 cx.2.1 dX9_doAct_31 (by omega) (by decide) ?_
                            exact wX9_doAct_186 cx hr hlk _ _ _ _ hf _ _ _ wo (lv_sub hl [2, 1, 0] rfl)
set_option maxHeartbeats 1000000 in
set_option maxRecDepth 10000 in
theorem wX9_week_91 (cx : Cx p s m args c cX9_week 6 RX9 G) (hr : meth.sig.returnType = (some .int)) (hlk : meth.locks = false) {k42 : Int32 → Int32 → Int32 → Int32 → Mem → Option (Int32 × Mem)} (hk42 : ∀ (x2 : Int32) (x3 : Int32) (x4 : Int32) (x5 : Int32)  (M : Mem) (q : Int32 × Mem), k42 x2 x3 x4 x5 M = some q → ∀ (H : Heap) (locs : List Loc) (ls : Array Slot), Wo Ph G B 205 s M H locs → lv_has ls 6 [(0, .ref (B + 1)), (2, .int x2), (3, .int x3), (4, .int x4), (5, .int x5)] → W p l e (rmN (9)) s m args below meth c H locs 0 0 (MQ below (QcI Ph G B 205 q.1 q.2) args s 0 0 (fr B)) (F0 m 42 ls [])) : ∀ (x3 : Int32) (x4 : Int32) (x5 : Int32) (s0 : Int32) (s1 : Int32)  (M : Mem) (q : Int32 × Mem), fX9_week_91 k42 x3 x4 x5 s0 s1 M = some q → ∀ (H : Heap) (locs : List Loc) (ls : Array Slot), Wo Ph G B 205 s M H locs → lv_has ls 6 [(0, .ref (B + 1)), (3, .int x3), (4, .int x4), (5, .int x5)] → W p l e (rmN (9)) s m args below meth c H locs 0 0 (MQ below (QcI Ph G B 205 q.1 q.2) args s 0 0 (fr B)) (F0 m 91 ls [.int s0, .int s1]) := by
  intro x3 x4 x5 s0 s1 M q hf H locs ls wo hl
  unfold fX9_week_91 at hf
  refine lv_iadd cx.1 cx.2.1 dX9_week_91 ?_
  obtain ⟨y21, e22, hf⟩ := lt_elim hf
  refine r_topi e22 ?_
  refine lv_istore_n (lv' := [(2, .int y21), (0, .ref (B + 1)), (3, .int x3), (4, .int x4), (5, .int x5)]) cx.1 cx.2.1 dX9_week_92 rfl hl (by decide) rfl (fun ls hl => ?_)
  refine lv_iload_n cx.1 cx.2.1 dX9_week_93 rfl (lv_at hl 2 rfl) ?_
  refine lv_aload_n cx.1 cx.2.1 dX9_week_94 rfl (lv_at hl 1 rfl) ?_
  refine r_getR cx wo ad_1.1 ad_1.2.1 ad_1.2.2 fiX9_10 (fn_1_0 wo.2.2.2.1) (by decide) dX9_week_95 ?_
  refine r_getR cx wo ad_2.1 ad_2.2.1 ad_2.2.2 fiX9_218 (fn_2_0 wo.2.2.2.1) (by decide) dX9_week_98 ?_
  refine lv_iload_n cx.1 cx.2.1 dX9_week_101 rfl (lv_at hl 2 rfl) ?_
  obtain ⟨g23, hf⟩ := gd_elim hf
  refine r_iald cx wo ad_3.1 ad_3.2.1 ad_3.2.2 (by rw [ln_3]; exact g23) dX9_week_102 ?_
  obtain ⟨q24, e25, hf⟩ := bd_elim hf
  refine r_Si (rest := [.int x3]) cx wo (mX9_actLength l e25) csX9_221 rfl hl.1 rfl (Nat.le_of_ble_eq_true rfl) (hR_ok (by decide)) dX9_week_103 (fun H locs wo => ?_)
  refine lv_iadd cx.1 cx.2.1 dX9_week_106 ?_
  obtain ⟨y26, e27, hf⟩ := lt_elim hf
  refine r_topi e27 ?_
  refine lv_istore_n (lv' := [(3, .int y26), (2, .int y21), (0, .ref (B + 1)), (4, .int x4), (5, .int x5)]) cx.1 cx.2.1 dX9_week_107 rfl hl (by decide) rfl (fun ls hl => ?_)
  obtain ⟨y28, e29, hf⟩ := lt_elim hf
  refine lv_iinc (v := y28) (lv' := [(5, .int y28), (3, .int y26), (2, .int y21), (0, .ref (B + 1)), (4, .int x4)]) cx.1 cx.2.1 dX9_week_108 hl (k := 4) rfl (by rw [e29]; rfl) (by decide) rfl (fun ls hl => ?_)
  refine lv_goto (tgt := 42) cx.1 cx.2.1 dX9_week_111 (by decide) ?_
  exact hk42 _ _ _ _ _ _ hf _ _ _ wo (lv_sub hl [3, 2, 1, 4, 0] rfl)
set_option maxHeartbeats 1000000 in
set_option maxRecDepth 10000 in
theorem wX9_week_78 (cx : Cx p s m args c cX9_week 6 RX9 G) (hr : meth.sig.returnType = (some .int)) (hlk : meth.locks = false) {k42 : Int32 → Int32 → Int32 → Int32 → Mem → Option (Int32 × Mem)} (hk42 : ∀ (x2 : Int32) (x3 : Int32) (x4 : Int32) (x5 : Int32)  (M : Mem) (q : Int32 × Mem), k42 x2 x3 x4 x5 M = some q → ∀ (H : Heap) (locs : List Loc) (ls : Array Slot), Wo Ph G B 205 s M H locs → lv_has ls 6 [(0, .ref (B + 1)), (2, .int x2), (3, .int x3), (4, .int x4), (5, .int x5)] → W p l e (rmN (9)) s m args below meth c H locs 0 0 (MQ below (QcI Ph G B 205 q.1 q.2) args s 0 0 (fr B)) (F0 m 42 ls [])) : ∀ (x2 : Int32) (x3 : Int32) (x5 : Int32) (s0 : Int32)  (M : Mem) (q : Int32 × Mem), fX9_week_78 k42 x2 x3 x5 s0 M = some q → ∀ (H : Heap) (locs : List Loc) (ls : Array Slot), Wo Ph G B 205 s M H locs → lv_has ls 6 [(0, .ref (B + 1)), (2, .int x2), (3, .int x3), (5, .int x5)] → W p l e (rmN (9)) s m args below meth c H locs 0 0 (MQ below (QcI Ph G B 205 q.1 q.2) args s 0 0 (fr B)) (F0 m 78 ls [.int s0]) := by
  intro x2 x3 x5 s0 M q hf H locs ls wo hl
  unfold fX9_week_78 at hf
  refine lv_istore (lv' := [(4, .int s0), (0, .ref (B + 1)), (2, .int x2), (3, .int x3), (5, .int x5)]) cx.1 cx.2.1 dX9_week_78 hl (by decide) rfl (fun ls hl => ?_)
  refine lv_iload_n cx.1 cx.2.1 dX9_week_80 rfl (lv_at hl 2 rfl) ?_
  refine lv_iload cx.1 cx.2.1 dX9_week_81 (lv_at hl 0 rfl) ?_
  refine lv_if_eq (tgt := 90) cx.1 cx.2.1 dX9_week_83 (by decide) (fun c19 => ?_) (fun c19 => ?_)
  · rw [if_pos c19] at hf
    refine lv_iconst (v := 1) cx.1 cx.2.1 dX9_week_90 (by decide) ?_
    exact wX9_week_91 cx hr hlk hk42 _ _ _ _ _ _ _ hf _ _ _ wo (lv_sub hl [1, 3, 0, 4] rfl)
  · rw [if_neg c19] at hf
    refine lv_iconst (v := 0) cx.1 cx.2.1 dX9_week_86 (by decide) ?_
    refine lv_goto (tgt := 91) cx.1 cx.2.1 dX9_week_87 (by decide) ?_
    exact wX9_week_91 cx hr hlk hk42 _ _ _ _ _ _ _ hf _ _ _ wo (lv_sub hl [1, 3, 0, 4] rfl)
set_option maxHeartbeats 1000000 in
set_option maxRecDepth 10000 in
theorem wX9_week_151 (cx : Cx p s m args c cX9_week 6 RX9 G) (hr : meth.sig.returnType = (some .int)) (hlk : meth.locks = false) : ∀ (x2 : Int32) (s0 : Int64)  (M : Mem) (q : Int32 × Mem), fX9_week_151 x2 s0 M = some q → ∀ (H : Heap) (locs : List Loc) (ls : Array Slot), Wo Ph G B 205 s M H locs → lv_has ls 6 [(0, .ref (B + 1)), (2, .int x2)] → W p l e (rmN (9)) s m args below meth c H locs 0 0 (MQ below (QcI Ph G B 205 q.1 q.2) args s 0 0 (fr B)) (F0 m 151 ls [.long s0, .ref (B + 4)]) := by
  intro x2 s0 M q hf H locs ls wo hl
  unfold fX9_week_151 at hf
  refine lv_aload_n cx.1 cx.2.1 dX9_week_151 rfl (lv_at hl 0 rfl) ?_
  refine r_getR cx wo ad_1.1 ad_1.2.1 ad_1.2.2 fiX9_26 (fn_1_2 wo.2.2.2.1) (by decide) dX9_week_152 ?_
  refine r_getI cx wo ad_6.1 ad_6.2.1 ad_6.2.2 fiX9_224 dX9_week_155 ?_
  refine lv_i2l (v := (M.1 6 7).toInt64) cx.1 cx.2.1 dX9_week_158 rfl ?_
  obtain ⟨q30, e31, hf⟩ := bd_elim hf
  refine r_Vv (rest := []) cx wo (mX5_tellBoth l e31) cvX9_227 rfl ad_4.1 ad_4.2.1 ad_4.2.2 rfl rfl hl.1 rfl (Nat.le_of_ble_eq_true rfl) (hR_ok (by decide)) dX9_week_159 (fun H locs wo => ?_)
  refine lv_iload_n cx.1 cx.2.1 dX9_week_162 rfl (lv_at hl 1 rfl) ?_
  have hq := Option.some.inj hf
  subst hq
  exact r_iret cx wo hr hlk dX9_week_163
set_option maxHeartbeats 1000000 in
set_option maxRecDepth 10000 in
theorem wX9_week_137 (cx : Cx p s m args c cX9_week 6 RX9 G) (hr : meth.sig.returnType = (some .int)) (hlk : meth.locks = false) : ∀ (x2 : Int32) (x4 : Int32)  (M : Mem) (q : Int32 × Mem), fX9_week_137 x2 x4 M = some q → ∀ (H : Heap) (locs : List Loc) (ls : Array Slot), Wo Ph G B 205 s M H locs → lv_has ls 6 [(0, .ref (B + 1)), (2, .int x2), (4, .int x4)] → W p l e (rmN (9)) s m args below meth c H locs 0 0 (MQ below (QcI Ph G B 205 q.1 q.2) args s 0 0 (fr B)) (F0 m 137 ls []) := by
  intro x2 x4 M q hf H locs ls wo hl
  unfold fX9_week_137 at hf
  refine lv_aload_n cx.1 cx.2.1 dX9_week_137 rfl (lv_at hl 0 rfl) ?_
  refine r_getR cx wo ad_1.1 ad_1.2.1 ad_1.2.2 fiX9_19 (fn_1_1 wo.2.2.2.1) (by decide) dX9_week_138 ?_
  refine lv_iload cx.1 cx.2.1 dX9_week_141 (lv_at hl 2 rfl) ?_
  refine lv_if_eq (tgt := 150) cx.1 cx.2.1 dX9_week_143 (by decide) (fun c20 => ?_) (fun c20 => ?_)
  · rw [if_pos c20] at hf
    refine lv_lconst (v := 0) cx.1 cx.2.1 dX9_week_150 (by decide) ?_
    exact wX9_week_151 cx hr hlk _ _ _ _ hf _ _ _ wo (lv_sub hl [0, 1] rfl)
  · rw [if_neg c20] at hf
    refine lv_lconst (v := 1) cx.1 cx.2.1 dX9_week_146 (by decide) ?_
    refine lv_goto (tgt := 151) cx.1 cx.2.1 dX9_week_147 (by decide) ?_
    exact wX9_week_151 cx hr hlk _ _ _ _ hf _ _ _ wo (lv_sub hl [0, 1] rfl)
set_option maxHeartbeats 1000000 in
set_option maxRecDepth 10000 in
theorem wX9_week_114 (cx : Cx p s m args c cX9_week 6 RX9 G) (hr : meth.sig.returnType = (some .int)) (hlk : meth.locks = false) : ∀ (x2 : Int32) (x4 : Int32)  (M : Mem) (q : Int32 × Mem), fX9_week_114 x2 x4 M = some q → ∀ (H : Heap) (locs : List Loc) (ls : Array Slot), Wo Ph G B 205 s M H locs → lv_has ls 6 [(0, .ref (B + 1)), (2, .int x2), (4, .int x4)] → W p l e (rmN (9)) s m args below meth c H locs 0 0 (MQ below (QcI Ph G B 205 q.1 q.2) args s 0 0 (fr B)) (F0 m 114 ls []) := by
  intro x2 x4 M q hf H locs ls wo hl
  unfold fX9_week_114 at hf
  refine lv_aload_n cx.1 cx.2.1 dX9_week_114 rfl (lv_at hl 0 rfl) ?_
  refine r_getR cx wo ad_1.1 ad_1.2.1 ad_1.2.2 fiX9_10 (fn_1_0 wo.2.2.2.1) (by decide) dX9_week_115 ?_
  refine lv_iconst (v := 0) cx.1 cx.2.1 dX9_week_118 (by decide) ?_
  obtain ⟨M14, e15, hf⟩ := lt_elim hf
  refine r_putI cx wo ad_2.1 ad_2.2.1 ad_2.2.2 fpX9_107 dX9_week_119 (fun H locs wo => ?_)
  rw [← e15] at wo
  refine lv_iload_n cx.1 cx.2.1 dX9_week_122 rfl (lv_at hl 1 rfl) ?_
  refine lv_if_le (tgt := 137) cx.1 cx.2.1 dX9_week_123 (by decide) (fun c16 => ?_) (fun c16 => ?_)
  · rw [if_pos c16] at hf
    exact wX9_week_137 cx hr hlk _ _ _ _ hf _ _ _ wo (lv_sub hl [0, 1, 2] rfl)
  · rw [if_neg c16] at hf
    refine lv_aload_n cx.1 cx.2.1 dX9_week_126 rfl (lv_at hl 0 rfl) ?_
    refine r_getR cx wo ad_1.1 ad_1.2.1 ad_1.2.2 fiX9_42 (fn_1_6 wo.2.2.2.1) (by decide) dX9_week_127 ?_
    refine lv_aload_n cx.1 cx.2.1 dX9_week_130 rfl (lv_at hl 0 rfl) ?_
    refine r_getR cx wo ad_1.1 ad_1.2.1 ad_1.2.2 fiX9_30 (fn_1_3 wo.2.2.2.1) (by decide) dX9_week_131 ?_
    obtain ⟨q17, e18, hf⟩ := bd_elim hf
    refine r_Vv (rest := []) cx wo (mX2_push l (by decide) e18) cvX9_178 rfl ad_26.1 ad_26.2.1 ad_26.2.2 rfl rfl hl.1 rfl (Nat.le_of_ble_eq_true rfl) (hR_ok (by decide)) dX9_week_134 (fun H locs wo => ?_)
    exact wX9_week_137 cx hr hlk _ _ _ _ hf _ _ _ wo (lv_sub hl [0, 1, 2] rfl)
set_option maxHeartbeats 1000000 in
set_option maxRecDepth 10000 in
theorem wX9_week_42 (cx : Cx p s m args c cX9_week 6 RX9 G) (hr : meth.sig.returnType = (some .int)) (hlk : meth.locks = false) : ∀ (n : Nat) (x2 : Int32) (x3 : Int32) (x4 : Int32) (x5 : Int32)  (M : Mem) (q : Int32 × Mem), fX9_week_42 n x2 x3 x4 x5 M = some q → ∀ (H : Heap) (locs : List Loc) (ls : Array Slot), Wo Ph G B 205 s M H locs → lv_has ls 6 [(0, .ref (B + 1)), (2, .int x2), (3, .int x3), (4, .int x4), (5, .int x5)] → W p l e (rmN (9)) s m args below meth c H locs 0 0 (MQ below (QcI Ph G B 205 q.1 q.2) args s 0 0 (fr B)) (F0 m 42 ls []) := by
  intro n
  induction n with
  | zero =>
    intro x2 x3 x4 x5 M q hf H locs ls wo hl
    have hf : none = some q := hf
    cases hf
  | succ n ih =>
    intro x2 x3 x4 x5 M q hf H locs ls wo hl
    rw [fX9_week_42] at hf
    refine lv_iload cx.1 cx.2.1 dX9_week_42 (lv_at hl 4 rfl) ?_
    refine lv_bipush (v := 60) cx.1 cx.2.1 dX9_week_44 (by decide) ?_
    refine lv_icmp_ge (tgt := 114) cx.1 cx.2.1 dX9_week_46 (by decide) (fun c8 => ?_) (fun c8 => ?_)
    · rw [if_pos c8] at hf
      exact wX9_week_114 cx hr hlk _ _ _ _ hf _ _ _ wo (lv_sub hl [0, 1, 3] rfl)
    · rw [if_neg c8] at hf
      refine lv_iload_n cx.1 cx.2.1 dX9_week_49 rfl (lv_at hl 2 rfl) ?_
      refine lv_aload_n cx.1 cx.2.1 dX9_week_50 rfl (lv_at hl 0 rfl) ?_
      refine r_getR cx wo ad_1.1 ad_1.2.1 ad_1.2.2 fiX9_10 (fn_1_0 wo.2.2.2.1) (by decide) dX9_week_51 ?_
      refine r_getI cx wo ad_2.1 ad_2.2.1 ad_2.2.2 fiX9_107 dX9_week_54 ?_
      refine lv_icmp_ge (tgt := 114) cx.1 cx.2.1 dX9_week_57 (by decide) (fun c9 => ?_) (fun c9 => ?_)
      · rw [if_pos c9] at hf
        exact wX9_week_114 cx hr hlk _ _ _ _ hf _ _ _ wo (lv_sub hl [0, 1, 3] rfl)
      · rw [if_neg c9] at hf
        refine lv_iload cx.1 cx.2.1 dX9_week_60 (lv_at hl 3 rfl) ?_
        refine lv_if_ne (tgt := 114) cx.1 cx.2.1 dX9_week_62 (by decide) (fun c10 => ?_) (fun c10 => ?_)
        · rw [if_neg c10] at hf
          exact wX9_week_114 cx hr hlk _ _ _ _ hf _ _ _ wo (lv_sub hl [0, 1, 3] rfl)
        · rw [if_pos c10] at hf
          refine lv_aload_n cx.1 cx.2.1 dX9_week_65 rfl (lv_at hl 0 rfl) ?_
          refine lv_iload_n cx.1 cx.2.1 dX9_week_66 rfl (lv_at hl 2 rfl) ?_
          obtain ⟨q11, e12, hf⟩ := bd_elim hf
          refine r_Vi (rest := []) cx wo (mX9_doAct l e12) cvX9_215 rfl ad_1.1 ad_1.2.1 ad_1.2.2 rfl rfl hl.1 rfl (Nat.le_of_ble_eq_true rfl) (hR_ok (by decide)) dX9_week_67 (fun H locs wo => ?_)
          refine lv_if_ne (tgt := 77) cx.1 cx.2.1 dX9_week_70 (by decide) (fun c13 => ?_) (fun c13 => ?_)
          · rw [if_neg c13] at hf
            refine lv_iconst (v := 0) cx.1 cx.2.1 dX9_week_77 (by decide) ?_
            exact wX9_week_78 cx hr hlk ih _ _ _ _ _ _ hf _ _ _ wo (lv_sub hl [0, 1, 2, 4] rfl)
          · rw [if_pos c13] at hf
            refine lv_iconst (v := 1) cx.1 cx.2.1 dX9_week_73 (by decide) ?_
            refine lv_goto (tgt := 78) cx.1 cx.2.1 dX9_week_74 (by decide) ?_
            exact wX9_week_78 cx hr hlk ih _ _ _ _ _ _ hf _ _ _ wo (lv_sub hl [0, 1, 2, 4] rfl)
set_option maxHeartbeats 1000000 in
set_option maxRecDepth 10000 in
theorem mX9_week (l : Launch) {G : GG} {B : Nat}   {M : Mem} {q : Int32 × Mem} (hf : fX9_week  M = some q) : Met l yX9_week (wsG yX9_week cX9_week 6 (some .int)) (rmN (9)) (PcW Ph G B 205 M [.ref (B + 1)]) (QcI Ph G B 205 q.1 q.2) 0 0 (fr B) := by
  refine mk_Met (own := RX9) rfl rfl (Nat.le_of_ble_eq_true rfl) ?_
  intro p e s m below meth c ls cx hr hlk wo hl
  have hl : lv_has ls 6 [(0, .ref (B + 1))] := hl
  unfold fX9_week at hf
  refine lv_aload_n cx.1 cx.2.1 dX9_week_0 rfl (lv_at hl 0 rfl) ?_
  obtain ⟨q1, e2, hf⟩ := bd_elim hf
  refine r_Vi (rest := []) cx wo (mX9_weekFault l e2) cvX9_212 rfl ad_1.1 ad_1.2.1 ad_1.2.2 rfl rfl hl.1 rfl (Nat.le_of_ble_eq_true rfl) (hR_ok (by decide)) dX9_week_1 (fun H locs wo => ?_)
  refine lv_istore_n (lv' := [(1, .int q1.1), (0, .ref (B + 1))]) cx.1 cx.2.1 dX9_week_4 rfl hl (by decide) rfl (fun ls hl => ?_)
  refine lv_iload_n cx.1 cx.2.1 dX9_week_5 rfl (lv_at hl 0 rfl) ?_
  refine lv_if_lt (tgt := 21) cx.1 cx.2.1 dX9_week_6 (by decide) (fun c3 => ?_) (fun c3 => ?_)
  · rw [if_pos c3] at hf
    refine lv_aload_n cx.1 cx.2.1 dX9_week_21 rfl (lv_at hl 1 rfl) ?_
    refine r_getR cx wo ad_1.1 ad_1.2.1 ad_1.2.2 fiX9_30 (fn_1_3 wo.2.2.2.1) (by decide) dX9_week_22 ?_
    refine lv_aload_n cx.1 cx.2.1 dX9_week_25 rfl (lv_at hl 1 rfl) ?_
    refine r_getR cx wo ad_1.1 ad_1.2.1 ad_1.2.2 fiX9_26 (fn_1_2 wo.2.2.2.1) (by decide) dX9_week_26 ?_
    obtain ⟨q4, e5, hf⟩ := bd_elim hf
    refine r_Vv (rest := []) cx wo (mX4_copyFrom l (by decide) (by decide) e5) cvX9_190 rfl ad_11.1 ad_11.2.1 ad_11.2.2 rfl rfl hl.1 rfl (Nat.le_of_ble_eq_true rfl) (hR_ok (by decide)) dX9_week_29 (fun H locs wo => ?_)
    refine lv_iconst (v := 0) cx.1 cx.2.1 dX9_week_32 (by decide) ?_
    refine lv_istore_n (lv' := [(2, .int 0), (1, .int q1.1), (0, .ref (B + 1))]) cx.1 cx.2.1 dX9_week_33 rfl hl (by decide) rfl (fun ls hl => ?_)
    refine lv_iconst (v := 0) cx.1 cx.2.1 dX9_week_34 (by decide) ?_
    refine lv_istore_n (lv' := [(3, .int 0), (2, .int 0), (1, .int q1.1), (0, .ref (B + 1))]) cx.1 cx.2.1 dX9_week_35 rfl hl (by decide) rfl (fun ls hl => ?_)
    refine lv_iconst (v := 0) cx.1 cx.2.1 dX9_week_36 (by decide) ?_
    refine lv_istore (lv' := [(4, .int 0), (3, .int 0), (2, .int 0), (1, .int q1.1), (0, .ref (B + 1))]) cx.1 cx.2.1 dX9_week_37 hl (by decide) rfl (fun ls hl => ?_)
    refine lv_iconst (v := 0) cx.1 cx.2.1 dX9_week_39 (by decide) ?_
    refine lv_istore (lv' := [(5, .int 0), (4, .int 0), (3, .int 0), (2, .int 0), (1, .int q1.1), (0, .ref (B + 1))]) cx.1 cx.2.1 dX9_week_40 hl (by decide) rfl (fun ls hl => ?_)
    exact wX9_week_42 cx hr hlk _ _ _ _ _ _ _ hf _ _ _ wo (lv_sub hl [5, 3, 2, 1, 0] rfl)
  · rw [if_neg c3] at hf
    refine lv_aload_n cx.1 cx.2.1 dX9_week_9 rfl (lv_at hl 1 rfl) ?_
    refine r_getR cx wo ad_1.1 ad_1.2.1 ad_1.2.2 fiX9_10 (fn_1_0 wo.2.2.2.1) (by decide) dX9_week_10 ?_
    refine lv_iconst (v := 0) cx.1 cx.2.1 dX9_week_13 (by decide) ?_
    obtain ⟨M6, e7, hf⟩ := lt_elim hf
    refine r_putI cx wo ad_2.1 ad_2.2.1 ad_2.2.2 fpX9_107 dX9_week_14 (fun H locs wo => ?_)
    rw [← e7] at wo
    refine lv_iconst (v := (-1)) cx.1 cx.2.1 dX9_week_17 (by decide) ?_
    refine lv_iload_n cx.1 cx.2.1 dX9_week_18 rfl (lv_at hl 0 rfl) ?_
    refine lv_isub cx.1 cx.2.1 dX9_week_19 ?_
    have hq := Option.some.inj hf
    subst hq
    exact r_iret cx wo hr hlk dX9_week_20
set_option maxHeartbeats 1000000 in
set_option maxRecDepth 10000 in
theorem mX9_undo (l : Launch) {G : GG} {B : Nat}   {M : Mem} {q : Int32 × Mem} (hf : fX9_undo  M = some q) : Met l yX9_undo (wsG yX9_undo cX9_undo 1 (some .int)) (rmN (4)) (PcW Ph G B 205 M [.ref (B + 1)]) (QcI Ph G B 205 q.1 q.2) 0 0 (fr B) := by
  refine mk_Met (own := RX9) rfl rfl (Nat.le_of_ble_eq_true rfl) ?_
  intro p e s m below meth c ls cx hr hlk wo hl
  have hl : lv_has ls 1 [(0, .ref (B + 1))] := hl
  unfold fX9_undo at hf
  refine lv_aload_n cx.1 cx.2.1 dX9_undo_0 rfl (lv_at hl 0 rfl) ?_
  refine r_getR cx wo ad_1.1 ad_1.2.1 ad_1.2.2 fiX9_42 (fn_1_6 wo.2.2.2.1) (by decide) dX9_undo_1 ?_
  refine lv_aload_n cx.1 cx.2.1 dX9_undo_4 rfl (lv_at hl 0 rfl) ?_
  refine r_getR cx wo ad_1.1 ad_1.2.1 ad_1.2.2 fiX9_26 (fn_1_2 wo.2.2.2.1) (by decide) dX9_undo_5 ?_
  obtain ⟨q1, e2, hf⟩ := bd_elim hf
  refine r_Vi (rest := []) cx wo (mX2_pop l (by decide) e2) cvX9_231 rfl ad_26.1 ad_26.2.1 ad_26.2.2 rfl rfl hl.1 rfl (Nat.le_of_ble_eq_true rfl) (hR_ok (by decide)) dX9_undo_8 (fun H locs wo => ?_)
  refine lv_if_ne (tgt := 16) cx.1 cx.2.1 dX9_undo_11 (by decide) (fun c3 => ?_) (fun c3 => ?_)
  · rw [if_neg c3] at hf
    refine lv_aload_n cx.1 cx.2.1 dX9_undo_16 rfl (lv_at hl 0 rfl) ?_
    refine r_getR cx wo ad_1.1 ad_1.2.1 ad_1.2.2 fiX9_42 (fn_1_6 wo.2.2.2.1) (by decide) dX9_undo_17 ?_
    refine r_getI cx wo ad_26.1 ad_26.2.1 ad_26.2.2 fiX9_127 dX9_undo_20 ?_
    have hq := Option.some.inj hf
    subst hq
    exact r_iret cx wo hr hlk dX9_undo_23
  · rw [if_pos c3] at hf
    refine lv_iconst (v := (-1)) cx.1 cx.2.1 dX9_undo_14 (by decide) ?_
    have hq := Option.some.inj hf
    subst hq
    exact r_iret cx wo hr hlk dX9_undo_15
set_option maxHeartbeats 1000000 in
set_option maxRecDepth 10000 in
theorem wX9_race_25 (cx : Cx p s m args c cX9_race 2 RX9 G) (hr : meth.sig.returnType = (some .int)) (hlk : meth.locks = false) : ∀ (n : Nat) (x1 : Int32)  (M : Mem) (q : Int32 × Mem), fX9_race_25 n x1 M = some q → ∀ (H : Heap) (locs : List Loc) (ls : Array Slot), Wo Ph G B 205 s M H locs → lv_has ls 2 [(0, .ref (B + 1)), (1, .int x1)] → W p l e (rmN (7)) s m args below meth c H locs 0 0 (MQ below (QcI Ph G B 205 q.1 q.2) args s 0 0 (fr B)) (F0 m 25 ls []) := by
  intro n
  induction n with
  | zero =>
    intro x1 M q hf H locs ls wo hl
    have hf : none = some q := hf
    cases hf
  | succ n ih =>
    intro x1 M q hf H locs ls wo hl
    rw [fX9_race_25] at hf
    refine lv_iload_n cx.1 cx.2.1 dX9_race_25 rfl (lv_at hl 1 rfl) ?_
    refine lv_aload_n cx.1 cx.2.1 dX9_race_26 rfl (lv_at hl 0 rfl) ?_
    refine r_getR cx wo ad_1.1 ad_1.2.1 ad_1.2.2 fiX9_64 (fn_1_10 wo.2.2.2.1) (by decide) dX9_race_27 ?_
    refine r_getI cx wo ad_108.1 ad_108.2.1 ad_108.2.2 fiX9_236 dX9_race_30 ?_
    refine lv_icmp_ge (tgt := 93) cx.1 cx.2.1 dX9_race_33 (by decide) (fun c6 => ?_) (fun c6 => ?_)
    · rw [if_pos c6] at hf
      refine lv_aload_n cx.1 cx.2.1 dX9_race_93 rfl (lv_at hl 0 rfl) ?_
      refine r_getR cx wo ad_1.1 ad_1.2.1 ad_1.2.2 fiX9_64 (fn_1_10 wo.2.2.2.1) (by decide) dX9_race_94 ?_
      refine r_getI cx wo ad_108.1 ad_108.2.1 ad_108.2.2 fiX9_236 dX9_race_97 ?_
      have hq := Option.some.inj hf
      subst hq
      exact r_iret cx wo hr hlk dX9_race_100
    · rw [if_neg c6] at hf
      refine lv_aload_n cx.1 cx.2.1 dX9_race_36 rfl (lv_at hl 0 rfl) ?_
      refine r_getR cx wo ad_1.1 ad_1.2.1 ad_1.2.2 fiX9_19 (fn_1_1 wo.2.2.2.1) (by decide) dX9_race_37 ?_
      refine lv_aload_n cx.1 cx.2.1 dX9_race_40 rfl (lv_at hl 0 rfl) ?_
      refine r_getR cx wo ad_1.1 ad_1.2.1 ad_1.2.2 fiX9_64 (fn_1_10 wo.2.2.2.1) (by decide) dX9_race_41 ?_
      refine r_getR cx wo ad_108.1 ad_108.2.1 ad_108.2.2 fiX9_239 (fn_108_6 wo.2.2.2.1) (by decide) dX9_race_44 ?_
      refine lv_iload_n cx.1 cx.2.1 dX9_race_47 rfl (lv_at hl 1 rfl) ?_
      obtain ⟨g7, hf⟩ := gd_elim hf
      refine r_iald cx wo ad_112.1 ad_112.2.1 ad_112.2.2 (by rw [ln_112]; exact g7) dX9_race_48 ?_
      refine lv_i2l (v := (M.1 112 (ix x1)).toInt64) cx.1 cx.2.1 dX9_race_49 rfl ?_
      obtain ⟨q8, e9, hf⟩ := bd_elim hf
      refine r_Vv (rest := []) cx wo (mX5_add l e9) cvX9_242 rfl ad_4.1 ad_4.2.1 ad_4.2.2 rfl rfl hl.1 rfl (Nat.le_of_ble_eq_true rfl) (hR_ok (by decide)) dX9_race_50 (fun H locs wo => ?_)
      refine lv_aload_n cx.1 cx.2.1 dX9_race_53 rfl (lv_at hl 0 rfl) ?_
      refine r_getR cx wo ad_1.1 ad_1.2.1 ad_1.2.2 fiX9_19 (fn_1_1 wo.2.2.2.1) (by decide) dX9_race_54 ?_
      refine lv_aload_n cx.1 cx.2.1 dX9_race_57 rfl (lv_at hl 0 rfl) ?_
      refine r_getR cx wo ad_1.1 ad_1.2.1 ad_1.2.2 fiX9_64 (fn_1_10 wo.2.2.2.1) (by decide) dX9_race_58 ?_
      refine r_getR cx wo ad_108.1 ad_108.2.1 ad_108.2.2 fiX9_244 (fn_108_7 wo.2.2.2.1) (by decide) dX9_race_61 ?_
      refine lv_iload_n cx.1 cx.2.1 dX9_race_64 rfl (lv_at hl 1 rfl) ?_
      obtain ⟨g10, hf⟩ := gd_elim hf
      refine r_iald cx wo ad_113.1 ad_113.2.1 ad_113.2.2 (by rw [ln_113]; exact g10) dX9_race_65 ?_
      refine lv_i2l (v := (q8.1 113 (ix x1)).toInt64) cx.1 cx.2.1 dX9_race_66 rfl ?_
      obtain ⟨q11, e12, hf⟩ := bd_elim hf
      refine r_Vv (rest := []) cx wo (mX5_add l e12) cvX9_242 rfl ad_4.1 ad_4.2.1 ad_4.2.2 rfl rfl hl.1 rfl (Nat.le_of_ble_eq_true rfl) (hR_ok (by decide)) dX9_race_67 (fun H locs wo => ?_)
      refine lv_aload_n cx.1 cx.2.1 dX9_race_70 rfl (lv_at hl 0 rfl) ?_
      refine r_getR cx wo ad_1.1 ad_1.2.1 ad_1.2.2 fiX9_19 (fn_1_1 wo.2.2.2.1) (by decide) dX9_race_71 ?_
      refine lv_aload_n cx.1 cx.2.1 dX9_race_74 rfl (lv_at hl 0 rfl) ?_
      refine r_getR cx wo ad_1.1 ad_1.2.1 ad_1.2.2 fiX9_64 (fn_1_10 wo.2.2.2.1) (by decide) dX9_race_75 ?_
      refine r_getR cx wo ad_108.1 ad_108.2.1 ad_108.2.2 fiX9_247 (fn_108_8 wo.2.2.2.1) (by decide) dX9_race_78 ?_
      refine lv_iload_n cx.1 cx.2.1 dX9_race_81 rfl (lv_at hl 1 rfl) ?_
      obtain ⟨g13, hf⟩ := gd_elim hf
      refine r_iald cx wo ad_114.1 ad_114.2.1 ad_114.2.2 (by rw [ln_114]; exact g13) dX9_race_82 ?_
      refine lv_i2l (v := (q11.1 114 (ix x1)).toInt64) cx.1 cx.2.1 dX9_race_83 rfl ?_
      obtain ⟨q14, e15, hf⟩ := bd_elim hf
      refine r_Vv (rest := []) cx wo (mX5_add l e15) cvX9_242 rfl ad_4.1 ad_4.2.1 ad_4.2.2 rfl rfl hl.1 rfl (Nat.le_of_ble_eq_true rfl) (hR_ok (by decide)) dX9_race_84 (fun H locs wo => ?_)
      obtain ⟨y16, e17, hf⟩ := lt_elim hf
      refine lv_iinc (v := y16) (lv' := [(1, .int y16), (0, .ref (B + 1))]) cx.1 cx.2.1 dX9_race_87 hl (k := 1) rfl (by rw [e17]; rfl) (by decide) rfl (fun ls hl => ?_)
      refine lv_goto (tgt := 25) cx.1 cx.2.1 dX9_race_90 (by decide) ?_
      exact ih _ _ _ hf _ _ _ wo (lv_sub hl [1, 0] rfl)
set_option maxHeartbeats 1000000 in
set_option maxRecDepth 10000 in
theorem mX9_race (l : Launch) {G : GG} {B : Nat}   {M : Mem} {q : Int32 × Mem} (hf : fX9_race  M = some q) : Met l yX9_race (wsG yX9_race cX9_race 2 (some .int)) (rmN (7)) (PcW Ph G B 205 M [.ref (B + 1)]) (QcI Ph G B 205 q.1 q.2) 0 0 (fr B) := by
  refine mk_Met (own := RX9) rfl rfl (Nat.le_of_ble_eq_true rfl) ?_
  intro p e s m below meth c ls cx hr hlk wo hl
  have hl : lv_has ls 2 [(0, .ref (B + 1))] := hl
  unfold fX9_race at hf
  refine lv_aload_n cx.1 cx.2.1 dX9_race_0 rfl (lv_at hl 0 rfl) ?_
  refine r_getR cx wo ad_1.1 ad_1.2.1 ad_1.2.2 fiX9_64 (fn_1_10 wo.2.2.2.1) (by decide) dX9_race_1 ?_
  refine lv_aload_n cx.1 cx.2.1 dX9_race_4 rfl (lv_at hl 0 rfl) ?_
  refine r_getR cx wo ad_1.1 ad_1.2.1 ad_1.2.2 fiX9_26 (fn_1_2 wo.2.2.2.1) (by decide) dX9_race_5 ?_
  refine lv_aload_n cx.1 cx.2.1 dX9_race_8 rfl (lv_at hl 0 rfl) ?_
  have hm1 : M.2.2 1 17 ∈ rules := wo.2.2.2.1.2.2.1
  refine r_getR cx wo ad_1.1 ad_1.2.1 ad_1.2.2 fiX9_100 rfl (rul_ok _ hm1).1.1 dX9_race_9 ?_
  obtain ⟨q2, e3, hf⟩ := bd_elim hf
  refine r_Vv (rest := []) cx wo (mX3_run l (by decide) hm1 e3) cvX9_157 rfl ad_108.1 ad_108.2.1 ad_108.2.2 rfl rfl hl.1 rfl (Nat.le_of_ble_eq_true rfl) (hR_ok (by decide)) dX9_race_12 (fun H locs wo => ?_)
  refine lv_aload_n cx.1 cx.2.1 dX9_race_15 rfl (lv_at hl 0 rfl) ?_
  refine r_getR cx wo ad_1.1 ad_1.2.1 ad_1.2.2 fiX9_19 (fn_1_1 wo.2.2.2.1) (by decide) dX9_race_16 ?_
  refine lv_iconst (v := 0) cx.1 cx.2.1 dX9_race_19 (by decide) ?_
  obtain ⟨M4, e5, hf⟩ := lt_elim hf
  refine r_putI cx wo ad_4.1 ad_4.2.1 ad_4.2.2 fpX9_235 dX9_race_20 (fun H locs wo => ?_)
  rw [← e5] at wo
  refine lv_iconst (v := 0) cx.1 cx.2.1 dX9_race_23 (by decide) ?_
  refine lv_istore_n (lv' := [(1, .int 0), (0, .ref (B + 1))]) cx.1 cx.2.1 dX9_race_24 rfl hl (by decide) rfl (fun ls hl => ?_)
  exact wX9_race_25 cx hr hlk _ _ _ _ hf _ _ _ wo (lv_sub hl [1, 0] rfl)
set_option maxHeartbeats 1000000 in
set_option maxRecDepth 10000 in
theorem wX9_lies_98 (cx : Cx p s m args c cX9_lies 4 RX9 G) (hr : meth.sig.returnType = (some .int)) (hlk : meth.locks = false) : ∀ (x3 : Int32) (s0 : Int64)  (M : Mem) (q : Int32 × Mem), fX9_lies_98 x3 s0 M = some q → ∀ (H : Heap) (locs : List Loc) (ls : Array Slot), Wo Ph G B 205 s M H locs → lv_has ls 4 [(0, .ref (B + 1)), (3, .int x3)] → W p l e (rmN (6)) s m args below meth c H locs 0 0 (MQ below (QcI Ph G B 205 q.1 q.2) args s 0 0 (fr B)) (F0 m 98 ls [.long s0, .ref (B + 4)]) := by
  intro x3 s0 M q hf H locs ls wo hl
  unfold fX9_lies_98 at hf
  obtain ⟨q20, e21, hf⟩ := bd_elim hf
  refine r_Vv (rest := []) cx wo (mX5_tell l e21) cvX9_186 rfl ad_4.1 ad_4.2.1 ad_4.2.2 rfl rfl hl.1 rfl (Nat.le_of_ble_eq_true rfl) (hR_ok (by decide)) dX9_lies_98 (fun H locs wo => ?_)
  refine lv_sipush (v := 1000) cx.1 cx.2.1 dX9_lies_101 (by decide) ?_
  refine lv_aload_n cx.1 cx.2.1 dX9_lies_104 rfl (lv_at hl 0 rfl) ?_
  refine r_getR cx wo ad_1.1 ad_1.2.1 ad_1.2.2 fiX9_64 (fn_1_10 wo.2.2.2.1) (by decide) dX9_lies_105 ?_
  refine r_getR cx wo ad_108.1 ad_108.2.1 ad_108.2.2 fiX9_260 (fn_108_1 wo.2.2.2.1) (by decide) dX9_lies_108 ?_
  refine lv_iload_n cx.1 cx.2.1 dX9_lies_111 rfl (lv_at hl 1 rfl) ?_
  obtain ⟨g22, hf⟩ := gd_elim hf
  refine r_iald cx wo ad_109.1 ad_109.2.1 ad_109.2.2 (by rw [ln_109]; exact g22) dX9_lies_112 ?_
  refine lv_iadd cx.1 cx.2.1 dX9_lies_113 ?_
  have hq := Option.some.inj hf
  subst hq
  exact r_iret cx wo hr hlk dX9_lies_114
set_option maxHeartbeats 1000000 in
set_option maxRecDepth 10000 in
theorem wX9_lies_40 (cx : Cx p s m args c cX9_lies 4 RX9 G) (hr : meth.sig.returnType = (some .int)) (hlk : meth.locks = false) : ∀ (n : Nat) (x1 : Int32) (x2 : Int32) (x3 : Int32)  (M : Mem) (q : Int32 × Mem), fX9_lies_40 n x1 x2 x3 M = some q → ∀ (H : Heap) (locs : List Loc) (ls : Array Slot), Wo Ph G B 205 s M H locs → lv_has ls 4 [(0, .ref (B + 1)), (1, .int x1), (2, .int x2), (3, .int x3)] → W p l e (rmN (6)) s m args below meth c H locs 0 0 (MQ below (QcI Ph G B 205 q.1 q.2) args s 0 0 (fr B)) (F0 m 40 ls []) := by
  intro n
  induction n with
  | zero =>
    intro x1 x2 x3 M q hf H locs ls wo hl
    have hf : none = some q := hf
    cases hf
  | succ n ih =>
    intro x1 x2 x3 M q hf H locs ls wo hl
    rw [fX9_lies_40] at hf
    refine lv_iload_n cx.1 cx.2.1 dX9_lies_40 rfl (lv_at hl 3 rfl) ?_
    refine lv_iload_n cx.1 cx.2.1 dX9_lies_41 rfl (lv_at hl 2 rfl) ?_
    refine lv_icmp_ge (tgt := 67) cx.1 cx.2.1 dX9_lies_42 (by decide) (fun c9 => ?_) (fun c9 => ?_)
    · rw [if_pos c9] at hf
      refine lv_aload_n cx.1 cx.2.1 dX9_lies_67 rfl (lv_at hl 0 rfl) ?_
      refine r_getR cx wo ad_1.1 ad_1.2.1 ad_1.2.2 fiX9_26 (fn_1_2 wo.2.2.2.1) (by decide) dX9_lies_68 ?_
      refine r_getR cx wo ad_6.1 ad_6.2.1 ad_6.2.2 fiX9_151 (fn_6_3 wo.2.2.2.1) (by decide) dX9_lies_71 ?_
      refine lv_iload_n cx.1 cx.2.1 dX9_lies_74 rfl (lv_at hl 1 rfl) ?_
      obtain ⟨g10, hf⟩ := gd_elim hf
      refine r_iald cx wo ad_9.1 ad_9.2.1 ad_9.2.2 (by rw [ln_9]; exact g10) dX9_lies_75 ?_
      obtain ⟨y11, e12, hf⟩ := lt_elim hf
      refine r_topi e12 ?_
      refine lv_istore_n (lv' := [(3, .int y11), (0, .ref (B + 1)), (1, .int x1), (2, .int x2)]) cx.1 cx.2.1 dX9_lies_76 rfl hl (by decide) rfl (fun ls hl => ?_)
      refine lv_aload_n cx.1 cx.2.1 dX9_lies_77 rfl (lv_at hl 1 rfl) ?_
      refine r_getR cx wo ad_1.1 ad_1.2.1 ad_1.2.2 fiX9_19 (fn_1_1 wo.2.2.2.1) (by decide) dX9_lies_78 ?_
      refine lv_aload_n cx.1 cx.2.1 dX9_lies_81 rfl (lv_at hl 1 rfl) ?_
      refine r_getR cx wo ad_1.1 ad_1.2.1 ad_1.2.2 fiX9_64 (fn_1_10 wo.2.2.2.1) (by decide) dX9_lies_82 ?_
      refine r_getR cx wo ad_108.1 ad_108.2.1 ad_108.2.2 fiX9_257 (fn_108_2 wo.2.2.2.1) (by decide) dX9_lies_85 ?_
      refine lv_iload_n cx.1 cx.2.1 dX9_lies_88 rfl (lv_at hl 0 rfl) ?_
      obtain ⟨g13, hf⟩ := gd_elim hf
      refine r_zald cx wo ad_110.1 ad_110.2.1 ad_110.2.2 (by rw [ln_110]; exact g13) dX9_lies_89 ?_
      refine lv_if_eq (tgt := 97) cx.1 cx.2.1 dX9_lies_90 (by decide) (fun c14 => ?_) (fun c14 => ?_)
      · rw [if_pos c14] at hf
        refine lv_lconst (v := 0) cx.1 cx.2.1 dX9_lies_97 (by decide) ?_
        exact wX9_lies_98 cx hr hlk _ _ _ _ hf _ _ _ wo (lv_sub hl [1, 0] rfl)
      · rw [if_neg c14] at hf
        refine lv_lconst (v := 1) cx.1 cx.2.1 dX9_lies_93 (by decide) ?_
        refine lv_goto (tgt := 98) cx.1 cx.2.1 dX9_lies_94 (by decide) ?_
        exact wX9_lies_98 cx hr hlk _ _ _ _ hf _ _ _ wo (lv_sub hl [1, 0] rfl)
    · rw [if_neg c9] at hf
      refine lv_aload_n cx.1 cx.2.1 dX9_lies_45 rfl (lv_at hl 0 rfl) ?_
      refine r_getR cx wo ad_1.1 ad_1.2.1 ad_1.2.2 fiX9_64 (fn_1_10 wo.2.2.2.1) (by decide) dX9_lies_46 ?_
      refine lv_aload_n cx.1 cx.2.1 dX9_lies_49 rfl (lv_at hl 0 rfl) ?_
      refine r_getR cx wo ad_1.1 ad_1.2.1 ad_1.2.2 fiX9_26 (fn_1_2 wo.2.2.2.1) (by decide) dX9_lies_50 ?_
      refine lv_aload_n cx.1 cx.2.1 dX9_lies_53 rfl (lv_at hl 0 rfl) ?_
      have hm15 : M.2.2 1 17 ∈ rules := wo.2.2.2.1.2.2.1
      refine r_getR cx wo ad_1.1 ad_1.2.1 ad_1.2.2 fiX9_100 rfl (rul_ok _ hm15).1.1 dX9_lies_54 ?_
      refine lv_iload_n cx.1 cx.2.1 dX9_lies_57 rfl (lv_at hl 3 rfl) ?_
      obtain ⟨q16, e17, hf⟩ := bd_elim hf
      refine r_Vv (rest := []) cx wo (mX3_pull l (by decide) hm15 e17) cvX9_253 rfl ad_108.1 ad_108.2.1 ad_108.2.2 rfl rfl hl.1 rfl (Nat.le_of_ble_eq_true rfl) (hR_ok (by decide)) dX9_lies_58 (fun H locs wo => ?_)
      obtain ⟨y18, e19, hf⟩ := lt_elim hf
      refine lv_iinc (v := y18) (lv' := [(3, .int y18), (0, .ref (B + 1)), (1, .int x1), (2, .int x2)]) cx.1 cx.2.1 dX9_lies_61 hl (k := 3) rfl (by rw [e19]; rfl) (by decide) rfl (fun ls hl => ?_)
      refine lv_goto (tgt := 40) cx.1 cx.2.1 dX9_lies_64 (by decide) ?_
      exact ih _ _ _ _ _ hf _ _ _ wo (lv_sub hl [1, 2, 3, 0] rfl)
set_option maxHeartbeats 1000000 in
set_option maxRecDepth 10000 in
theorem mX9_lies (l : Launch) {G : GG} {B : Nat} {x1 : Int32} {x2 : Int32}  {M : Mem} {q : Int32 × Mem} (hf : fX9_lies x1 x2 M = some q) : Met l yX9_lies (wsG yX9_lies cX9_lies 4 (some .int)) (rmN (6)) (PcW Ph G B 205 M [.ref (B + 1), .int x1, .int x2]) (QcI Ph G B 205 q.1 q.2) 0 0 (fr B) := by
  refine mk_Met (own := RX9) rfl rfl (Nat.le_of_ble_eq_true rfl) ?_
  intro p e s m below meth c ls cx hr hlk wo hl
  have hl : lv_has ls 4 [(0, .ref (B + 1)), (1, .int x1), (2, .int x2)] := hl
  unfold fX9_lies at hf
  refine lv_aload_n cx.1 cx.2.1 dX9_lies_0 rfl (lv_at hl 0 rfl) ?_
  refine r_getR cx wo ad_1.1 ad_1.2.1 ad_1.2.2 fiX9_26 (fn_1_2 wo.2.2.2.1) (by decide) dX9_lies_1 ?_
  refine lv_iload_n cx.1 cx.2.1 dX9_lies_4 rfl (lv_at hl 1 rfl) ?_
  obtain ⟨q1, e2, hf⟩ := bd_elim hf
  refine r_Vi (rest := []) cx wo (mX4_has l (by decide) e2) cvX9_134 rfl ad_6.1 ad_6.2.1 ad_6.2.2 rfl rfl hl.1 rfl (Nat.le_of_ble_eq_true rfl) (hR_ok (by decide)) dX9_lies_5 (fun H locs wo => ?_)
  refine lv_if_eq (tgt := 21) cx.1 cx.2.1 dX9_lies_8 (by decide) (fun c3 => ?_) (fun c3 => ?_)
  · rw [if_pos c3] at hf
    refine lv_iconst (v := (-1)) cx.1 cx.2.1 dX9_lies_21 (by decide) ?_
    have hq := Option.some.inj hf
    subst hq
    exact r_iret cx wo hr hlk dX9_lies_22
  · rw [if_neg c3] at hf
    refine lv_iload_n cx.1 cx.2.1 dX9_lies_11 rfl (lv_at hl 2 rfl) ?_
    refine lv_if_lt (tgt := 21) cx.1 cx.2.1 dX9_lies_12 (by decide) (fun c4 => ?_) (fun c4 => ?_)
    · rw [if_pos c4] at hf
      refine lv_iconst (v := (-1)) cx.1 cx.2.1 dX9_lies_21 (by decide) ?_
      have hq := Option.some.inj hf
      subst hq
      exact r_iret cx wo hr hlk dX9_lies_22
    · rw [if_neg c4] at hf
      refine lv_iload_n cx.1 cx.2.1 dX9_lies_15 rfl (lv_at hl 2 rfl) ?_
      refine lv_bipush (v := 40) cx.1 cx.2.1 dX9_lies_16 (by decide) ?_
      refine lv_icmp_le (tgt := 23) cx.1 cx.2.1 dX9_lies_18 (by decide) (fun c5 => ?_) (fun c5 => ?_)
      · rw [if_pos c5] at hf
        refine lv_aload_n cx.1 cx.2.1 dX9_lies_23 rfl (lv_at hl 0 rfl) ?_
        refine r_getR cx wo ad_1.1 ad_1.2.1 ad_1.2.2 fiX9_64 (fn_1_10 wo.2.2.2.1) (by decide) dX9_lies_24 ?_
        refine lv_aload_n cx.1 cx.2.1 dX9_lies_27 rfl (lv_at hl 0 rfl) ?_
        refine r_getR cx wo ad_1.1 ad_1.2.1 ad_1.2.2 fiX9_26 (fn_1_2 wo.2.2.2.1) (by decide) dX9_lies_28 ?_
        refine lv_aload_n cx.1 cx.2.1 dX9_lies_31 rfl (lv_at hl 0 rfl) ?_
        have hm6 : q1.2.2.2 1 17 ∈ rules := wo.2.2.2.1.2.2.1
        refine r_getR cx wo ad_1.1 ad_1.2.1 ad_1.2.2 fiX9_100 rfl (rul_ok _ hm6).1.1 dX9_lies_32 ?_
        obtain ⟨q7, e8, hf⟩ := bd_elim hf
        refine r_Vv (rest := []) cx wo (mX3_begin l (by decide) hm6 e8) cvX9_250 rfl ad_108.1 ad_108.2.1 ad_108.2.2 rfl rfl hl.1 rfl (Nat.le_of_ble_eq_true rfl) (hR_ok (by decide)) dX9_lies_35 (fun H locs wo => ?_)
        refine lv_iconst (v := 0) cx.1 cx.2.1 dX9_lies_38 (by decide) ?_
        refine lv_istore_n (lv' := [(3, .int 0), (0, .ref (B + 1)), (1, .int x1), (2, .int x2)]) cx.1 cx.2.1 dX9_lies_39 rfl hl (by decide) rfl (fun ls hl => ?_)
        exact wX9_lies_40 cx hr hlk _ _ _ _ _ _ hf _ _ _ wo (lv_sub hl [1, 2, 3, 0] rfl)
      · rw [if_neg c5] at hf
        refine lv_iconst (v := (-1)) cx.1 cx.2.1 dX9_lies_21 (by decide) ?_
        have hq := Option.some.inj hf
        subst hq
        exact r_iret cx wo hr hlk dX9_lies_22
set_option maxHeartbeats 1000000 in
set_option maxRecDepth 10000 in
theorem mX9_over (l : Launch) {G : GG} {B : Nat}   {M : Mem} {q : Int32 × Mem} (hf : fX9_over  M = some q) : Met l yX9_over (wsG yX9_over cX9_over 1 (some .int)) (rmN (7)) (PcW Ph G B 205 M [.ref (B + 1)]) (QcI Ph G B 205 q.1 q.2) 0 0 (fr B) := by
  refine mk_Met (own := RX9) rfl rfl (Nat.le_of_ble_eq_true rfl) ?_
  intro p e s m below meth c ls cx hr hlk wo hl
  have hl : lv_has ls 1 [(0, .ref (B + 1))] := hl
  unfold fX9_over at hf
  refine lv_aload_n cx.1 cx.2.1 dX9_over_0 rfl (lv_at hl 0 rfl) ?_
  refine r_getR cx wo ad_1.1 ad_1.2.1 ad_1.2.2 fiX9_64 (fn_1_10 wo.2.2.2.1) (by decide) dX9_over_1 ?_
  refine lv_aload_n cx.1 cx.2.1 dX9_over_4 rfl (lv_at hl 0 rfl) ?_
  refine r_getR cx wo ad_1.1 ad_1.2.1 ad_1.2.2 fiX9_26 (fn_1_2 wo.2.2.2.1) (by decide) dX9_over_5 ?_
  refine lv_aload_n cx.1 cx.2.1 dX9_over_8 rfl (lv_at hl 0 rfl) ?_
  have hm1 : M.2.2 1 17 ∈ rules := wo.2.2.2.1.2.2.1
  refine r_getR cx wo ad_1.1 ad_1.2.1 ad_1.2.2 fiX9_100 rfl (rul_ok _ hm1).1.1 dX9_over_9 ?_
  obtain ⟨q2, e3, hf⟩ := bd_elim hf
  refine r_Vv (rest := []) cx wo (mX3_run l (by decide) hm1 e3) cvX9_157 rfl ad_108.1 ad_108.2.1 ad_108.2.2 rfl rfl hl.1 rfl (Nat.le_of_ble_eq_true rfl) (hR_ok (by decide)) dX9_over_12 (fun H locs wo => ?_)
  refine lv_aload_n cx.1 cx.2.1 dX9_over_15 rfl (lv_at hl 0 rfl) ?_
  refine r_getR cx wo ad_1.1 ad_1.2.1 ad_1.2.2 fiX9_19 (fn_1_1 wo.2.2.2.1) (by decide) dX9_over_16 ?_
  refine lv_aload_n cx.1 cx.2.1 dX9_over_19 rfl (lv_at hl 0 rfl) ?_
  refine r_getR cx wo ad_1.1 ad_1.2.1 ad_1.2.2 fiX9_64 (fn_1_10 wo.2.2.2.1) (by decide) dX9_over_20 ?_
  obtain ⟨q4, e5, hf⟩ := bd_elim hf
  refine r_Vi (rest := [.ref (B + 4)]) cx wo (mX3_touchers l e5) cvX9_263 rfl ad_108.1 ad_108.2.1 ad_108.2.2 rfl rfl hl.1 rfl (Nat.le_of_ble_eq_true rfl) (hR_ok (by decide)) dX9_over_23 (fun H locs wo => ?_)
  refine lv_i2l (v := q4.1.toInt64) cx.1 cx.2.1 dX9_over_26 rfl ?_
  refine lv_aload_n cx.1 cx.2.1 dX9_over_27 rfl (lv_at hl 0 rfl) ?_
  refine r_getR cx wo ad_1.1 ad_1.2.1 ad_1.2.2 fiX9_64 (fn_1_10 wo.2.2.2.1) (by decide) dX9_over_28 ?_
  obtain ⟨q6, e7, hf⟩ := bd_elim hf
  refine r_Vi (rest := [.long q4.1.toInt64, .ref (B + 4)]) cx wo (mX3_touchedOnes l e7) cvX9_266 rfl ad_108.1 ad_108.2.1 ad_108.2.2 rfl rfl hl.1 rfl (Nat.le_of_ble_eq_true rfl) (hR_ok (by decide)) dX9_over_31 (fun H locs wo => ?_)
  refine lv_i2l (v := q6.1.toInt64) cx.1 cx.2.1 dX9_over_34 rfl ?_
  obtain ⟨q8, e9, hf⟩ := bd_elim hf
  refine r_Vv (rest := []) cx wo (mX5_tellBoth l e9) cvX9_227 rfl ad_4.1 ad_4.2.1 ad_4.2.2 rfl rfl hl.1 rfl (Nat.le_of_ble_eq_true rfl) (hR_ok (by decide)) dX9_over_35 (fun H locs wo => ?_)
  refine lv_aload_n cx.1 cx.2.1 dX9_over_38 rfl (lv_at hl 0 rfl) ?_
  refine r_getR cx wo ad_1.1 ad_1.2.1 ad_1.2.2 fiX9_64 (fn_1_10 wo.2.2.2.1) (by decide) dX9_over_39 ?_
  refine lv_aload_n cx.1 cx.2.1 dX9_over_42 rfl (lv_at hl 0 rfl) ?_
  refine r_getR cx wo ad_1.1 ad_1.2.1 ad_1.2.2 fiX9_26 (fn_1_2 wo.2.2.2.1) (by decide) dX9_over_43 ?_
  obtain ⟨q10, e11, hf⟩ := bd_elim hf
  refine r_Vi (rest := []) cx wo (mX3_goingOnes l (by decide) e11) cvX9_269 rfl ad_108.1 ad_108.2.1 ad_108.2.2 rfl rfl hl.1 rfl (Nat.le_of_ble_eq_true rfl) (hR_ok (by decide)) dX9_over_46 (fun H locs wo => ?_)
  have hq := Option.some.inj hf
  subst hq
  exact r_iret cx wo hr hlk dX9_over_49
set_option maxHeartbeats 1000000 in
set_option maxRecDepth 10000 in
theorem wX9_closest_163 (cx : Cx p s m args c cX9_closest 8 RX9 G) (hr : meth.sig.returnType = (some .int)) (hlk : meth.locks = false) {k49 : Int32 → Int32 → Int32 → Int32 → Int32 → Mem → Option (Int32 × Mem)} (hk49 : ∀ (x2 : Int32) (x3 : Int32) (x4 : Int32) (x5 : Int32) (x6 : Int32)  (M : Mem) (q : Int32 × Mem), k49 x2 x3 x4 x5 x6 M = some q → ∀ (H : Heap) (locs : List Loc) (ls : Array Slot), Wo Ph G B 205 s M H locs → lv_has ls 8 [(0, .ref (B + 1)), (2, .int x2), (3, .int x3), (4, .int x4), (5, .int x5), (6, .int x6)] → W p l e (rmN (6)) s m args below meth c H locs 0 0 (MQ below (QcI Ph G B 205 q.1 q.2) args s 0 0 (fr B)) (F0 m 49 ls [])) : ∀ (x2 : Int32) (x3 : Int32) (x4 : Int32) (x5 : Int32) (x6 : Int32)  (M : Mem) (q : Int32 × Mem), fX9_closest_163 k49 x2 x3 x4 x5 x6 M = some q → ∀ (H : Heap) (locs : List Loc) (ls : Array Slot), Wo Ph G B 205 s M H locs → lv_has ls 8 [(0, .ref (B + 1)), (2, .int x2), (3, .int x3), (4, .int x4), (5, .int x5), (6, .int x6)] → W p l e (rmN (6)) s m args below meth c H locs 0 0 (MQ below (QcI Ph G B 205 q.1 q.2) args s 0 0 (fr B)) (F0 m 163 ls []) := by
  intro x2 x3 x4 x5 x6 M q hf H locs ls wo hl
  unfold fX9_closest_163 at hf
  refine lv_aload_n cx.1 cx.2.1 dX9_closest_163 rfl (lv_at hl 0 rfl) ?_
  refine r_getR cx wo ad_1.1 ad_1.2.1 ad_1.2.2 fiX9_64 (fn_1_10 wo.2.2.2.1) (by decide) dX9_closest_164 ?_
  refine lv_aload_n cx.1 cx.2.1 dX9_closest_167 rfl (lv_at hl 0 rfl) ?_
  refine r_getR cx wo ad_1.1 ad_1.2.1 ad_1.2.2 fiX9_26 (fn_1_2 wo.2.2.2.1) (by decide) dX9_closest_168 ?_
  refine lv_aload_n cx.1 cx.2.1 dX9_closest_171 rfl (lv_at hl 0 rfl) ?_
  have hm24 : M.2.2 1 17 ∈ rules := wo.2.2.2.1.2.2.1
  refine r_getR cx wo ad_1.1 ad_1.2.1 ad_1.2.2 fiX9_100 rfl (rul_ok _ hm24).1.1 dX9_closest_172 ?_
  refine lv_iload cx.1 cx.2.1 dX9_closest_175 (lv_at hl 5 rfl) ?_
  obtain ⟨q25, e26, hf⟩ := bd_elim hf
  refine r_Vv (rest := []) cx wo (mX3_pull l (by decide) hm24 e26) cvX9_253 rfl ad_108.1 ad_108.2.1 ad_108.2.2 rfl rfl hl.1 rfl (Nat.le_of_ble_eq_true rfl) (hR_ok (by decide)) dX9_closest_177 (fun H locs wo => ?_)
  obtain ⟨y27, e28, hf⟩ := lt_elim hf
  refine lv_iinc (v := y27) (lv' := [(6, .int y27), (0, .ref (B + 1)), (2, .int x2), (3, .int x3), (4, .int x4), (5, .int x5)]) cx.1 cx.2.1 dX9_closest_180 hl (k := 5) rfl (by rw [e28]; rfl) (by decide) rfl (fun ls hl => ?_)
  refine lv_goto (tgt := 49) cx.1 cx.2.1 dX9_closest_183 (by decide) ?_
  exact hk49 _ _ _ _ _ _ _ hf _ _ _ wo (lv_sub hl [1, 2, 3, 4, 5, 0] rfl)
set_option maxHeartbeats 1000000 in
set_option maxRecDepth 10000 in
theorem wX9_closest_127 (cx : Cx p s m args c cX9_closest 8 RX9 G) (hr : meth.sig.returnType = (some .int)) (hlk : meth.locks = false) {k49 : Int32 → Int32 → Int32 → Int32 → Int32 → Mem → Option (Int32 × Mem)} (hk49 : ∀ (x2 : Int32) (x3 : Int32) (x4 : Int32) (x5 : Int32) (x6 : Int32)  (M : Mem) (q : Int32 × Mem), k49 x2 x3 x4 x5 x6 M = some q → ∀ (H : Heap) (locs : List Loc) (ls : Array Slot), Wo Ph G B 205 s M H locs → lv_has ls 8 [(0, .ref (B + 1)), (2, .int x2), (3, .int x3), (4, .int x4), (5, .int x5), (6, .int x6)] → W p l e (rmN (6)) s m args below meth c H locs 0 0 (MQ below (QcI Ph G B 205 q.1 q.2) args s 0 0 (fr B)) (F0 m 49 ls [])) : ∀ (x2 : Int32) (x6 : Int32) (x7 : Int32)  (M : Mem) (q : Int32 × Mem), fX9_closest_127 k49 x2 x6 x7 M = some q → ∀ (H : Heap) (locs : List Loc) (ls : Array Slot), Wo Ph G B 205 s M H locs → lv_has ls 8 [(0, .ref (B + 1)), (2, .int x2), (6, .int x6), (7, .int x7)] → W p l e (rmN (6)) s m args below meth c H locs 0 0 (MQ below (QcI Ph G B 205 q.1 q.2) args s 0 0 (fr B)) (F0 m 127 ls []) := by
  intro x2 x6 x7 M q hf H locs ls wo hl
  unfold fX9_closest_127 at hf
  refine lv_aload_n cx.1 cx.2.1 dX9_closest_127 rfl (lv_at hl 0 rfl) ?_
  refine r_getR cx wo ad_1.1 ad_1.2.1 ad_1.2.2 fiX9_64 (fn_1_10 wo.2.2.2.1) (by decide) dX9_closest_128 ?_
  refine r_getR cx wo ad_108.1 ad_108.2.1 ad_108.2.2 fiX9_260 (fn_108_1 wo.2.2.2.1) (by decide) dX9_closest_131 ?_
  refine lv_iload cx.1 cx.2.1 dX9_closest_134 (lv_at hl 3 rfl) ?_
  obtain ⟨g29, hf⟩ := gd_elim hf
  refine r_iald cx wo ad_109.1 ad_109.2.1 ad_109.2.2 (by rw [ln_109]; exact g29) dX9_closest_136 ?_
  refine lv_aload_n cx.1 cx.2.1 dX9_closest_137 rfl (lv_at hl 0 rfl) ?_
  refine r_getR cx wo ad_1.1 ad_1.2.1 ad_1.2.2 fiX9_64 (fn_1_10 wo.2.2.2.1) (by decide) dX9_closest_138 ?_
  refine r_getR cx wo ad_108.1 ad_108.2.1 ad_108.2.2 fiX9_260 (fn_108_1 wo.2.2.2.1) (by decide) dX9_closest_141 ?_
  refine lv_iload_n cx.1 cx.2.1 dX9_closest_144 rfl (lv_at hl 1 rfl) ?_
  obtain ⟨g30, hf⟩ := gd_elim hf
  refine r_iald cx wo ad_109.1 ad_109.2.1 ad_109.2.2 (by rw [ln_109]; exact g30) dX9_closest_145 ?_
  refine lv_isub cx.1 cx.2.1 dX9_closest_146 ?_
  obtain ⟨y31, e32, hf⟩ := lt_elim hf
  refine r_topi e32 ?_
  refine lv_istore_n (lv' := [(3, .int y31), (0, .ref (B + 1)), (2, .int x2), (6, .int x6), (7, .int x7)]) cx.1 cx.2.1 dX9_closest_147 rfl hl (by decide) rfl (fun ls hl => ?_)
  refine lv_iload cx.1 cx.2.1 dX9_closest_148 (lv_at hl 3 rfl) ?_
  refine lv_istore (lv' := [(4, .int x6), (3, .int y31), (0, .ref (B + 1)), (2, .int x2), (6, .int x6), (7, .int x7)]) cx.1 cx.2.1 dX9_closest_150 hl (by decide) rfl (fun ls hl => ?_)
  refine lv_aload_n cx.1 cx.2.1 dX9_closest_152 rfl (lv_at hl 2 rfl) ?_
  refine r_getR cx wo ad_1.1 ad_1.2.1 ad_1.2.2 fiX9_26 (fn_1_2 wo.2.2.2.1) (by decide) dX9_closest_153 ?_
  refine lv_iload cx.1 cx.2.1 dX9_closest_156 (lv_at hl 5 rfl) ?_
  obtain ⟨q33, e34, hf⟩ := bd_elim hf
  refine r_Vi (rest := []) cx wo (mX4_boatOn l (by decide) e34) cvX9_154 rfl ad_6.1 ad_6.2.1 ad_6.2.2 rfl rfl hl.1 rfl (Nat.le_of_ble_eq_true rfl) (hR_ok (by decide)) dX9_closest_158 (fun H locs wo => ?_)
  refine lv_istore (lv' := [(5, .int q33.1), (4, .int x6), (3, .int y31), (0, .ref (B + 1)), (2, .int x2), (6, .int x6), (7, .int x7)]) cx.1 cx.2.1 dX9_closest_161 hl (by decide) rfl (fun ls hl => ?_)
  exact wX9_closest_163 cx hr hlk hk49 _ _ _ _ _ _ _ hf _ _ _ wo (lv_sub hl [3, 4, 2, 1, 0, 5] rfl)
set_option maxHeartbeats 1000000 in
set_option maxRecDepth 10000 in
theorem wX9_closest_186 (cx : Cx p s m args c cX9_closest 8 RX9 G) (hr : meth.sig.returnType = (some .int)) (hlk : meth.locks = false) : ∀ (x3 : Int32) (x4 : Int32) (x5 : Int32)  (M : Mem) (q : Int32 × Mem), fX9_closest_186 x3 x4 x5 M = some q → ∀ (H : Heap) (locs : List Loc) (ls : Array Slot), Wo Ph G B 205 s M H locs → lv_has ls 8 [(0, .ref (B + 1)), (3, .int x3), (4, .int x4), (5, .int x5)] → W p l e (rmN (6)) s m args below meth c H locs 0 0 (MQ below (QcI Ph G B 205 q.1 q.2) args s 0 0 (fr B)) (F0 m 186 ls []) := by
  intro x3 x4 x5 M q hf H locs ls wo hl
  unfold fX9_closest_186 at hf
  refine lv_iload_n cx.1 cx.2.1 dX9_closest_186 rfl (lv_at hl 1 rfl) ?_
  refine lv_if_ge (tgt := 193) cx.1 cx.2.1 dX9_closest_187 (by decide) (fun c21 => ?_) (fun c21 => ?_)
  · rw [if_pos c21] at hf
    refine lv_aload_n cx.1 cx.2.1 dX9_closest_193 rfl (lv_at hl 0 rfl) ?_
    refine r_getR cx wo ad_1.1 ad_1.2.1 ad_1.2.2 fiX9_19 (fn_1_1 wo.2.2.2.1) (by decide) dX9_closest_194 ?_
    refine lv_iload cx.1 cx.2.1 dX9_closest_197 (lv_at hl 2 rfl) ?_
    refine lv_i2l (v := x4.toInt64) cx.1 cx.2.1 dX9_closest_199 rfl ?_
    refine lv_iload cx.1 cx.2.1 dX9_closest_200 (lv_at hl 3 rfl) ?_
    refine lv_i2l (v := x5.toInt64) cx.1 cx.2.1 dX9_closest_202 rfl ?_
    obtain ⟨q22, e23, hf⟩ := bd_elim hf
    refine r_Vv (rest := []) cx wo (mX5_tellBoth l e23) cvX9_227 rfl ad_4.1 ad_4.2.1 ad_4.2.2 rfl rfl hl.1 rfl (Nat.le_of_ble_eq_true rfl) (hR_ok (by decide)) dX9_closest_203 (fun H locs wo => ?_)
    refine lv_iload_n cx.1 cx.2.1 dX9_closest_206 rfl (lv_at hl 1 rfl) ?_
    have hq := Option.some.inj hf
    subst hq
    exact r_iret cx wo hr hlk dX9_closest_207
  · rw [if_neg c21] at hf
    refine lv_bipush (v := (-2)) cx.1 cx.2.1 dX9_closest_190 (by decide) ?_
    have hq := Option.some.inj hf
    subst hq
    exact r_iret cx wo hr hlk dX9_closest_192
set_option maxHeartbeats 1000000 in
set_option maxRecDepth 10000 in
theorem wX9_closest_49 (cx : Cx p s m args c cX9_closest 8 RX9 G) (hr : meth.sig.returnType = (some .int)) (hlk : meth.locks = false) : ∀ (n : Nat) (x2 : Int32) (x3 : Int32) (x4 : Int32) (x5 : Int32) (x6 : Int32)  (M : Mem) (q : Int32 × Mem), fX9_closest_49 n x2 x3 x4 x5 x6 M = some q → ∀ (H : Heap) (locs : List Loc) (ls : Array Slot), Wo Ph G B 205 s M H locs → lv_has ls 8 [(0, .ref (B + 1)), (2, .int x2), (3, .int x3), (4, .int x4), (5, .int x5), (6, .int x6)] → W p l e (rmN (6)) s m args below meth c H locs 0 0 (MQ below (QcI Ph G B 205 q.1 q.2) args s 0 0 (fr B)) (F0 m 49 ls []) := by
  intro n
  induction n with
  | zero =>
    intro x2 x3 x4 x5 x6 M q hf H locs ls wo hl
    have hf : none = some q := hf
    cases hf
  | succ n ih =>
    intro x2 x3 x4 x5 x6 M q hf H locs ls wo hl
    rw [fX9_closest_49] at hf
    refine lv_iload cx.1 cx.2.1 dX9_closest_49 (lv_at hl 5 rfl) ?_
    refine lv_aload_n cx.1 cx.2.1 dX9_closest_51 rfl (lv_at hl 0 rfl) ?_
    refine r_getR cx wo ad_1.1 ad_1.2.1 ad_1.2.2 fiX9_26 (fn_1_2 wo.2.2.2.1) (by decide) dX9_closest_52 ?_
    refine r_getI cx wo ad_6.1 ad_6.2.1 ad_6.2.2 fiX9_273 dX9_closest_55 ?_
    refine lv_icmp_gt (tgt := 186) cx.1 cx.2.1 dX9_closest_58 (by decide) (fun c10 => ?_) (fun c10 => ?_)
    · rw [if_pos c10] at hf
      exact wX9_closest_186 cx hr hlk _ _ _ _ _ hf _ _ _ wo (lv_sub hl [0, 2, 3, 4] rfl)
    · rw [if_neg c10] at hf
      refine lv_aload_n cx.1 cx.2.1 dX9_closest_61 rfl (lv_at hl 0 rfl) ?_
      refine r_getR cx wo ad_1.1 ad_1.2.1 ad_1.2.2 fiX9_64 (fn_1_10 wo.2.2.2.1) (by decide) dX9_closest_62 ?_
      refine r_getI cx wo ad_108.1 ad_108.2.1 ad_108.2.2 fiX9_276 dX9_closest_65 ?_
      refine lv_iconst (v := 1) cx.1 cx.2.1 dX9_closest_68 (by decide) ?_
      refine lv_icmp_le (tgt := 186) cx.1 cx.2.1 dX9_closest_69 (by decide) (fun c11 => ?_) (fun c11 => ?_)
      · rw [if_pos c11] at hf
        exact wX9_closest_186 cx hr hlk _ _ _ _ _ hf _ _ _ wo (lv_sub hl [0, 2, 3, 4] rfl)
      · rw [if_neg c11] at hf
        refine lv_aload_n cx.1 cx.2.1 dX9_closest_72 rfl (lv_at hl 0 rfl) ?_
        refine r_getR cx wo ad_1.1 ad_1.2.1 ad_1.2.2 fiX9_64 (fn_1_10 wo.2.2.2.1) (by decide) dX9_closest_73 ?_
        refine r_getR cx wo ad_108.1 ad_108.2.1 ad_108.2.2 fiX9_257 (fn_108_2 wo.2.2.2.1) (by decide) dX9_closest_76 ?_
        refine lv_iload_n cx.1 cx.2.1 dX9_closest_79 rfl (lv_at hl 1 rfl) ?_
        obtain ⟨g12, hf⟩ := gd_elim hf
        refine r_zald cx wo ad_110.1 ad_110.2.1 ad_110.2.2 (by rw [ln_110]; exact g12) dX9_closest_80 ?_
        refine lv_if_eq (tgt := 186) cx.1 cx.2.1 dX9_closest_81 (by decide) (fun c13 => ?_) (fun c13 => ?_)
        · rw [if_pos c13] at hf
          exact wX9_closest_186 cx hr hlk _ _ _ _ _ hf _ _ _ wo (lv_sub hl [0, 2, 3, 4] rfl)
        · rw [if_neg c13] at hf
          refine lv_aload_n cx.1 cx.2.1 dX9_closest_84 rfl (lv_at hl 0 rfl) ?_
          refine r_getR cx wo ad_1.1 ad_1.2.1 ad_1.2.2 fiX9_64 (fn_1_10 wo.2.2.2.1) (by decide) dX9_closest_85 ?_
          refine lv_iload_n cx.1 cx.2.1 dX9_closest_88 rfl (lv_at hl 1 rfl) ?_
          obtain ⟨q14, e15, hf⟩ := bd_elim hf
          refine r_Vi (rest := []) cx wo (mX3_nextAhead l e15) cvX9_279 rfl ad_108.1 ad_108.2.1 ad_108.2.2 rfl rfl hl.1 rfl (Nat.le_of_ble_eq_true rfl) (hR_ok (by decide)) dX9_closest_89 (fun H locs wo => ?_)
          refine lv_istore (lv' := [(7, .int q14.1), (0, .ref (B + 1)), (2, .int x2), (3, .int x3), (4, .int x4), (5, .int x5), (6, .int x6)]) cx.1 cx.2.1 dX9_closest_92 hl (by decide) rfl (fun ls hl => ?_)
          refine lv_iload cx.1 cx.2.1 dX9_closest_94 (lv_at hl 0 rfl) ?_
          refine lv_if_lt (tgt := 163) cx.1 cx.2.1 dX9_closest_96 (by decide) (fun c16 => ?_) (fun c16 => ?_)
          · rw [if_pos c16] at hf
            exact wX9_closest_163 cx hr hlk ih _ _ _ _ _ _ _ hf _ _ _ wo (lv_sub hl [1, 2, 3, 4, 5, 6] rfl)
          · rw [if_neg c16] at hf
            refine lv_iload_n cx.1 cx.2.1 dX9_closest_99 rfl (lv_at hl 3 rfl) ?_
            refine lv_if_lt (tgt := 127) cx.1 cx.2.1 dX9_closest_100 (by decide) (fun c17 => ?_) (fun c17 => ?_)
            · rw [if_pos c17] at hf
              exact wX9_closest_127 cx hr hlk ih _ _ _ _ _ hf _ _ _ wo (lv_sub hl [1, 2, 6, 0] rfl)
            · rw [if_neg c17] at hf
              refine lv_aload_n cx.1 cx.2.1 dX9_closest_103 rfl (lv_at hl 1 rfl) ?_
              refine r_getR cx wo ad_1.1 ad_1.2.1 ad_1.2.2 fiX9_64 (fn_1_10 wo.2.2.2.1) (by decide) dX9_closest_104 ?_
              refine r_getR cx wo ad_108.1 ad_108.2.1 ad_108.2.2 fiX9_260 (fn_108_1 wo.2.2.2.1) (by decide) dX9_closest_107 ?_
              refine lv_iload cx.1 cx.2.1 dX9_closest_110 (lv_at hl 0 rfl) ?_
              obtain ⟨g18, hf⟩ := gd_elim hf
              refine r_iald cx wo ad_109.1 ad_109.2.1 ad_109.2.2 (by rw [ln_109]; exact g18) dX9_closest_112 ?_
              refine lv_aload_n cx.1 cx.2.1 dX9_closest_113 rfl (lv_at hl 1 rfl) ?_
              refine r_getR cx wo ad_1.1 ad_1.2.1 ad_1.2.2 fiX9_64 (fn_1_10 wo.2.2.2.1) (by decide) dX9_closest_114 ?_
              refine r_getR cx wo ad_108.1 ad_108.2.1 ad_108.2.2 fiX9_260 (fn_108_1 wo.2.2.2.1) (by decide) dX9_closest_117 ?_
              refine lv_iload_n cx.1 cx.2.1 dX9_closest_120 rfl (lv_at hl 2 rfl) ?_
              obtain ⟨g19, hf⟩ := gd_elim hf
              refine r_iald cx wo ad_109.1 ad_109.2.1 ad_109.2.2 (by rw [ln_109]; exact g19) dX9_closest_121 ?_
              refine lv_isub cx.1 cx.2.1 dX9_closest_122 ?_
              refine lv_iload_n cx.1 cx.2.1 dX9_closest_123 rfl (lv_at hl 3 rfl) ?_
              refine lv_icmp_ge (tgt := 163) cx.1 cx.2.1 dX9_closest_124 (by decide) (fun c20 => ?_) (fun c20 => ?_)
              · rw [if_pos c20] at hf
                exact wX9_closest_163 cx hr hlk ih _ _ _ _ _ _ _ hf _ _ _ wo (lv_sub hl [1, 2, 3, 4, 5, 6] rfl)
              · rw [if_neg c20] at hf
                exact wX9_closest_127 cx hr hlk ih _ _ _ _ _ hf _ _ _ wo (lv_sub hl [1, 2, 6, 0] rfl)
set_option maxHeartbeats 1000000 in
set_option maxRecDepth 10000 in
theorem mX9_closest (l : Launch) {G : GG} {B : Nat} {x1 : Int32}  {M : Mem} {q : Int32 × Mem} (hf : fX9_closest x1 M = some q) : Met l yX9_closest (wsG yX9_closest cX9_closest 8 (some .int)) (rmN (6)) (PcW Ph G B 205 M [.ref (B + 1), .int x1]) (QcI Ph G B 205 q.1 q.2) 0 0 (fr B) := by
  refine mk_Met (own := RX9) rfl rfl (Nat.le_of_ble_eq_true rfl) ?_
  intro p e s m below meth c ls cx hr hlk wo hl
  have hl : lv_has ls 8 [(0, .ref (B + 1)), (1, .int x1)] := hl
  unfold fX9_closest at hf
  refine lv_aload_n cx.1 cx.2.1 dX9_closest_0 rfl (lv_at hl 0 rfl) ?_
  refine r_getR cx wo ad_1.1 ad_1.2.1 ad_1.2.2 fiX9_26 (fn_1_2 wo.2.2.2.1) (by decide) dX9_closest_1 ?_
  refine lv_iload_n cx.1 cx.2.1 dX9_closest_4 rfl (lv_at hl 1 rfl) ?_
  obtain ⟨q1, e2, hf⟩ := bd_elim hf
  refine r_Vi (rest := []) cx wo (mX4_has l (by decide) e2) cvX9_134 rfl ad_6.1 ad_6.2.1 ad_6.2.2 rfl rfl hl.1 rfl (Nat.le_of_ble_eq_true rfl) (hR_ok (by decide)) dX9_closest_5 (fun H locs wo => ?_)
  refine lv_if_ne (tgt := 13) cx.1 cx.2.1 dX9_closest_8 (by decide) (fun c3 => ?_) (fun c3 => ?_)
  · rw [if_neg c3] at hf
    refine lv_aload_n cx.1 cx.2.1 dX9_closest_13 rfl (lv_at hl 0 rfl) ?_
    refine r_getR cx wo ad_1.1 ad_1.2.1 ad_1.2.2 fiX9_26 (fn_1_2 wo.2.2.2.1) (by decide) dX9_closest_14 ?_
    refine r_getR cx wo ad_6.1 ad_6.2.1 ad_6.2.2 fiX9_151 (fn_6_3 wo.2.2.2.1) (by decide) dX9_closest_17 ?_
    refine lv_iload_n cx.1 cx.2.1 dX9_closest_20 rfl (lv_at hl 1 rfl) ?_
    obtain ⟨g4, hf⟩ := gd_elim hf
    refine r_iald cx wo ad_9.1 ad_9.2.1 ad_9.2.2 (by rw [ln_9]; exact g4) dX9_closest_21 ?_
    obtain ⟨y5, e6, hf⟩ := lt_elim hf
    refine r_topi e6 ?_
    refine lv_istore_n (lv' := [(2, .int y5), (0, .ref (B + 1)), (1, .int x1)]) cx.1 cx.2.1 dX9_closest_22 rfl hl (by decide) rfl (fun ls hl => ?_)
    refine lv_iconst (v := (-1)) cx.1 cx.2.1 dX9_closest_23 (by decide) ?_
    refine lv_istore_n (lv' := [(3, .int (-1)), (2, .int y5), (0, .ref (B + 1)), (1, .int x1)]) cx.1 cx.2.1 dX9_closest_24 rfl hl (by decide) rfl (fun ls hl => ?_)
    refine lv_iconst (v := 0) cx.1 cx.2.1 dX9_closest_25 (by decide) ?_
    refine lv_istore (lv' := [(4, .int 0), (3, .int (-1)), (2, .int y5), (0, .ref (B + 1)), (1, .int x1)]) cx.1 cx.2.1 dX9_closest_26 hl (by decide) rfl (fun ls hl => ?_)
    refine lv_iconst (v := (-1)) cx.1 cx.2.1 dX9_closest_28 (by decide) ?_
    refine lv_istore (lv' := [(5, .int (-1)), (4, .int 0), (3, .int (-1)), (2, .int y5), (0, .ref (B + 1)), (1, .int x1)]) cx.1 cx.2.1 dX9_closest_29 hl (by decide) rfl (fun ls hl => ?_)
    refine lv_aload_n cx.1 cx.2.1 dX9_closest_31 rfl (lv_at hl 4 rfl) ?_
    refine r_getR cx wo ad_1.1 ad_1.2.1 ad_1.2.2 fiX9_64 (fn_1_10 wo.2.2.2.1) (by decide) dX9_closest_32 ?_
    refine lv_aload_n cx.1 cx.2.1 dX9_closest_35 rfl (lv_at hl 4 rfl) ?_
    refine r_getR cx wo ad_1.1 ad_1.2.1 ad_1.2.2 fiX9_26 (fn_1_2 wo.2.2.2.1) (by decide) dX9_closest_36 ?_
    refine lv_aload_n cx.1 cx.2.1 dX9_closest_39 rfl (lv_at hl 4 rfl) ?_
    have hm7 : q1.2.2.2 1 17 ∈ rules := wo.2.2.2.1.2.2.1
    refine r_getR cx wo ad_1.1 ad_1.2.1 ad_1.2.2 fiX9_100 rfl (rul_ok _ hm7).1.1 dX9_closest_40 ?_
    obtain ⟨q8, e9, hf⟩ := bd_elim hf
    refine r_Vv (rest := []) cx wo (mX3_begin l (by decide) hm7 e9) cvX9_250 rfl ad_108.1 ad_108.2.1 ad_108.2.2 rfl rfl hl.1 rfl (Nat.le_of_ble_eq_true rfl) (hR_ok (by decide)) dX9_closest_43 (fun H locs wo => ?_)
    refine lv_iconst (v := 0) cx.1 cx.2.1 dX9_closest_46 (by decide) ?_
    refine lv_istore (lv' := [(6, .int 0), (5, .int (-1)), (4, .int 0), (3, .int (-1)), (2, .int y5), (0, .ref (B + 1)), (1, .int x1)]) cx.1 cx.2.1 dX9_closest_47 hl (by decide) rfl (fun ls hl => ?_)
    exact wX9_closest_49 cx hr hlk _ _ _ _ _ _ _ _ hf _ _ _ wo (lv_sub hl [5, 4, 3, 2, 1, 0] rfl)
  · rw [if_pos c3] at hf
    refine lv_iconst (v := (-1)) cx.1 cx.2.1 dX9_closest_11 (by decide) ?_
    have hq := Option.some.inj hf
    subst hq
    exact r_iret cx wo hr hlk dX9_closest_12
set_option maxHeartbeats 1000000 in
set_option maxRecDepth 10000 in
theorem mX9_later (l : Launch) {G : GG} {B : Nat} {x1 : Int32} {x2 : Int32}  {M : Mem} {q : Int32 × Mem} (hf : fX9_later x1 x2 M = some q) : Met l yX9_later (wsG yX9_later cX9_later 4 (some .int)) (rmN (8)) (PcW Ph G B 205 M [.ref (B + 1), .int x1, .int x2]) (QcI Ph G B 205 q.1 q.2) 0 0 (fr B) := by
  refine mk_Met (own := RX9) rfl rfl (Nat.le_of_ble_eq_true rfl) ?_
  intro p e s m below meth c ls cx hr hlk wo hl
  have hl : lv_has ls 4 [(0, .ref (B + 1)), (1, .int x1), (2, .int x2)] := hl
  unfold fX9_later at hf
  refine lv_aload_n cx.1 cx.2.1 dX9_later_0 rfl (lv_at hl 0 rfl) ?_
  refine r_getR cx wo ad_1.1 ad_1.2.1 ad_1.2.2 fiX9_26 (fn_1_2 wo.2.2.2.1) (by decide) dX9_later_1 ?_
  refine lv_iload_n cx.1 cx.2.1 dX9_later_4 rfl (lv_at hl 1 rfl) ?_
  obtain ⟨q1, e2, hf⟩ := bd_elim hf
  refine r_Vi (rest := []) cx wo (mX4_has l (by decide) e2) cvX9_134 rfl ad_6.1 ad_6.2.1 ad_6.2.2 rfl rfl hl.1 rfl (Nat.le_of_ble_eq_true rfl) (hR_ok (by decide)) dX9_later_5 (fun H locs wo => ?_)
  refine lv_if_eq (tgt := 21) cx.1 cx.2.1 dX9_later_8 (by decide) (fun c3 => ?_) (fun c3 => ?_)
  · rw [if_pos c3] at hf
    refine lv_iconst (v := (-1)) cx.1 cx.2.1 dX9_later_21 (by decide) ?_
    have hq := Option.some.inj hf
    subst hq
    exact r_iret cx wo hr hlk dX9_later_22
  · rw [if_neg c3] at hf
    refine lv_iload_n cx.1 cx.2.1 dX9_later_11 rfl (lv_at hl 2 rfl) ?_
    refine lv_if_lt (tgt := 21) cx.1 cx.2.1 dX9_later_12 (by decide) (fun c4 => ?_) (fun c4 => ?_)
    · rw [if_pos c4] at hf
      refine lv_iconst (v := (-1)) cx.1 cx.2.1 dX9_later_21 (by decide) ?_
      have hq := Option.some.inj hf
      subst hq
      exact r_iret cx wo hr hlk dX9_later_22
    · rw [if_neg c4] at hf
      refine lv_iload_n cx.1 cx.2.1 dX9_later_15 rfl (lv_at hl 2 rfl) ?_
      refine lv_bipush (v := 60) cx.1 cx.2.1 dX9_later_16 (by decide) ?_
      refine lv_icmp_le (tgt := 23) cx.1 cx.2.1 dX9_later_18 (by decide) (fun c5 => ?_) (fun c5 => ?_)
      · rw [if_pos c5] at hf
        refine lv_aload_n cx.1 cx.2.1 dX9_later_23 rfl (lv_at hl 0 rfl) ?_
        refine r_getR cx wo ad_1.1 ad_1.2.1 ad_1.2.2 fiX9_33 (fn_1_4 wo.2.2.2.1) (by decide) dX9_later_24 ?_
        refine lv_aload_n cx.1 cx.2.1 dX9_later_27 rfl (lv_at hl 0 rfl) ?_
        refine r_getR cx wo ad_1.1 ad_1.2.1 ad_1.2.2 fiX9_26 (fn_1_2 wo.2.2.2.1) (by decide) dX9_later_28 ?_
        obtain ⟨q6, e7, hf⟩ := bd_elim hf
        refine r_Vv (rest := []) cx wo (mX4_copyFrom l (by decide) (by decide) e7) cvX9_190 rfl ad_16.1 ad_16.2.1 ad_16.2.2 rfl rfl hl.1 rfl (Nat.le_of_ble_eq_true rfl) (hR_ok (by decide)) dX9_later_31 (fun H locs wo => ?_)
        refine lv_aload_n cx.1 cx.2.1 dX9_later_34 rfl (lv_at hl 0 rfl) ?_
        refine lv_aload_n cx.1 cx.2.1 dX9_later_35 rfl (lv_at hl 0 rfl) ?_
        refine r_getR cx wo ad_1.1 ad_1.2.1 ad_1.2.2 fiX9_33 (fn_1_4 wo.2.2.2.1) (by decide) dX9_later_36 ?_
        refine lv_aload_n cx.1 cx.2.1 dX9_later_39 rfl (lv_at hl 0 rfl) ?_
        have hm8 : q6.2.2 1 17 ∈ rules := wo.2.2.2.1.2.2.1
        refine r_getR cx wo ad_1.1 ad_1.2.1 ad_1.2.2 fiX9_100 rfl (rul_ok _ hm8).1.1 dX9_later_40 ?_
        refine lv_iload_n cx.1 cx.2.1 dX9_later_43 rfl (lv_at hl 2 rfl) ?_
        obtain ⟨q9, e10, hf⟩ := bd_elim hf
        refine r_Vi (rest := []) cx wo (mX9_passDays l (by decide) hm8 e10) cvX9_182 rfl ad_1.1 ad_1.2.1 ad_1.2.2 rfl rfl hl.1 rfl (Nat.le_of_ble_eq_true rfl) (hR_ok (by decide)) dX9_later_44 (fun H locs wo => ?_)
        refine lv_istore_n (lv' := [(3, .int q9.1), (0, .ref (B + 1)), (1, .int x1), (2, .int x2)]) cx.1 cx.2.1 dX9_later_47 rfl hl (by decide) rfl (fun ls hl => ?_)
        refine lv_aload_n cx.1 cx.2.1 dX9_later_48 rfl (lv_at hl 1 rfl) ?_
        refine r_getR cx wo ad_1.1 ad_1.2.1 ad_1.2.2 fiX9_19 (fn_1_1 wo.2.2.2.1) (by decide) dX9_later_49 ?_
        refine lv_aload_n cx.1 cx.2.1 dX9_later_52 rfl (lv_at hl 1 rfl) ?_
        refine r_getR cx wo ad_1.1 ad_1.2.1 ad_1.2.2 fiX9_33 (fn_1_4 wo.2.2.2.1) (by decide) dX9_later_53 ?_
        refine r_getR cx wo ad_16.1 ad_16.2.1 ad_16.2.2 fiX9_148 (fn_16_2 wo.2.2.2.1) (by decide) dX9_later_56 ?_
        refine lv_iload_n cx.1 cx.2.1 dX9_later_59 rfl (lv_at hl 2 rfl) ?_
        obtain ⟨g11, hf⟩ := gd_elim hf
        refine r_iald cx wo ad_18.1 ad_18.2.1 ad_18.2.2 (by rw [ln_18]; exact g11) dX9_later_60 ?_
        refine lv_i2l (v := (q9.2.1 18 (ix x1)).toInt64) cx.1 cx.2.1 dX9_later_61 rfl ?_
        refine lv_iload_n cx.1 cx.2.1 dX9_later_62 rfl (lv_at hl 0 rfl) ?_
        refine lv_i2l (v := q9.1.toInt64) cx.1 cx.2.1 dX9_later_63 rfl ?_
        obtain ⟨q12, e13, hf⟩ := bd_elim hf
        refine r_Vv (rest := []) cx wo (mX5_tellBoth l e13) cvX9_227 rfl ad_4.1 ad_4.2.1 ad_4.2.2 rfl rfl hl.1 rfl (Nat.le_of_ble_eq_true rfl) (hR_ok (by decide)) dX9_later_64 (fun H locs wo => ?_)
        refine lv_aload_n cx.1 cx.2.1 dX9_later_67 rfl (lv_at hl 1 rfl) ?_
        refine r_getR cx wo ad_1.1 ad_1.2.1 ad_1.2.2 fiX9_33 (fn_1_4 wo.2.2.2.1) (by decide) dX9_later_68 ?_
        refine r_getR cx wo ad_16.1 ad_16.2.1 ad_16.2.2 fiX9_151 (fn_16_3 wo.2.2.2.1) (by decide) dX9_later_71 ?_
        refine lv_iload_n cx.1 cx.2.1 dX9_later_74 rfl (lv_at hl 2 rfl) ?_
        obtain ⟨g14, hf⟩ := gd_elim hf
        refine r_iald cx wo ad_19.1 ad_19.2.1 ad_19.2.2 (by rw [ln_19]; exact g14) dX9_later_75 ?_
        have hq := Option.some.inj hf
        subst hq
        exact r_iret cx wo hr hlk dX9_later_76
      · rw [if_neg c5] at hf
        refine lv_iconst (v := (-1)) cx.1 cx.2.1 dX9_later_21 (by decide) ?_
        have hq := Option.some.inj hf
        subst hq
        exact r_iret cx wo hr hlk dX9_later_22
set_option maxHeartbeats 1000000 in
set_option maxRecDepth 10000 in
theorem wX9_head_28 (cx : Cx p s m args c cX9_head 4 RX9 G) (hr : meth.sig.returnType = (some .int)) (hlk : meth.locks = false) : ∀ (n : Nat) (x1 : Int32) (x2 : Int32) (x3 : Int32)  (M : Mem) (q : Int32 × Mem), fX9_head_28 n x1 x2 x3 M = some q → ∀ (H : Heap) (locs : List Loc) (ls : Array Slot), Wo Ph G B 205 s M H locs → lv_has ls 4 [(0, .ref (B + 1)), (1, .int x1), (2, .int x2), (3, .int x3)] → W p l e (rmN (8)) s m args below meth c H locs 0 0 (MQ below (QcI Ph G B 205 q.1 q.2) args s 0 0 (fr B)) (F0 m 28 ls []) := by
  intro n
  induction n with
  | zero =>
    intro x1 x2 x3 M q hf H locs ls wo hl
    have hf : none = some q := hf
    cases hf
  | succ n ih =>
    intro x1 x2 x3 M q hf H locs ls wo hl
    rw [fX9_head_28] at hf
    refine lv_iload_n cx.1 cx.2.1 dX9_head_28 rfl (lv_at hl 3 rfl) ?_
    refine lv_bipush (v := 60) cx.1 cx.2.1 dX9_head_29 (by decide) ?_
    refine lv_icmp_gt (tgt := 86) cx.1 cx.2.1 dX9_head_31 (by decide) (fun c6 => ?_) (fun c6 => ?_)
    · rw [if_pos c6] at hf
      refine lv_bipush (v := (-2)) cx.1 cx.2.1 dX9_head_86 (by decide) ?_
      have hq := Option.some.inj hf
      subst hq
      exact r_iret cx wo hr hlk dX9_head_88
    · rw [if_neg c6] at hf
      refine lv_aload_n cx.1 cx.2.1 dX9_head_34 rfl (lv_at hl 0 rfl) ?_
      refine r_getR cx wo ad_1.1 ad_1.2.1 ad_1.2.2 fiX9_33 (fn_1_4 wo.2.2.2.1) (by decide) dX9_head_35 ?_
      refine r_getR cx wo ad_16.1 ad_16.2.1 ad_16.2.2 fiX9_151 (fn_16_3 wo.2.2.2.1) (by decide) dX9_head_38 ?_
      refine lv_iload_n cx.1 cx.2.1 dX9_head_41 rfl (lv_at hl 1 rfl) ?_
      obtain ⟨g7, hf⟩ := gd_elim hf
      refine r_iald cx wo ad_19.1 ad_19.2.1 ad_19.2.2 (by rw [ln_19]; exact g7) dX9_head_42 ?_
      refine lv_if_ne (tgt := 57) cx.1 cx.2.1 dX9_head_43 (by decide) (fun c8 => ?_) (fun c8 => ?_)
      · rw [if_neg c8] at hf
        refine lv_aload_n cx.1 cx.2.1 dX9_head_57 rfl (lv_at hl 0 rfl) ?_
        refine r_getR cx wo ad_1.1 ad_1.2.1 ad_1.2.2 fiX9_33 (fn_1_4 wo.2.2.2.1) (by decide) dX9_head_58 ?_
        refine lv_iconst (v := 0) cx.1 cx.2.1 dX9_head_61 (by decide) ?_
        obtain ⟨q9, e10, hf⟩ := bd_elim hf
        refine r_Vi (rest := []) cx wo (mX4_boatOn l (by decide) e10) cvX9_154 rfl ad_16.1 ad_16.2.1 ad_16.2.2 rfl rfl hl.1 rfl (Nat.le_of_ble_eq_true rfl) (hR_ok (by decide)) dX9_head_62 (fun H locs wo => ?_)
        refine lv_istore_n (lv' := [(2, .int q9.1), (0, .ref (B + 1)), (1, .int x1), (3, .int x3)]) cx.1 cx.2.1 dX9_head_65 rfl hl (by decide) rfl (fun ls hl => ?_)
        refine lv_aload_n cx.1 cx.2.1 dX9_head_66 rfl (lv_at hl 1 rfl) ?_
        refine lv_aload_n cx.1 cx.2.1 dX9_head_67 rfl (lv_at hl 1 rfl) ?_
        refine r_getR cx wo ad_1.1 ad_1.2.1 ad_1.2.2 fiX9_33 (fn_1_4 wo.2.2.2.1) (by decide) dX9_head_68 ?_
        refine lv_aload_n cx.1 cx.2.1 dX9_head_71 rfl (lv_at hl 1 rfl) ?_
        have hm11 : q9.2.2.2 1 17 ∈ rules := wo.2.2.2.1.2.2.1
        refine r_getR cx wo ad_1.1 ad_1.2.1 ad_1.2.2 fiX9_100 rfl (rul_ok _ hm11).1.1 dX9_head_72 ?_
        refine lv_iconst (v := 1) cx.1 cx.2.1 dX9_head_75 (by decide) ?_
        obtain ⟨q12, e13, hf⟩ := bd_elim hf
        refine r_Vi (rest := []) cx wo (mX9_passDays l (by decide) hm11 e13) cvX9_182 rfl ad_1.1 ad_1.2.1 ad_1.2.2 rfl rfl hl.1 rfl (Nat.le_of_ble_eq_true rfl) (hR_ok (by decide)) dX9_head_76 (fun H locs wo => ?_)
        refine lv_pop cx.1 cx.2.1 dX9_head_79 rfl ?_
        obtain ⟨y14, e15, hf⟩ := lt_elim hf
        refine lv_iinc (v := y14) (lv' := [(3, .int y14), (2, .int q9.1), (0, .ref (B + 1)), (1, .int x1)]) cx.1 cx.2.1 dX9_head_80 hl (k := 3) rfl (by rw [e15]; rfl) (by decide) rfl (fun ls hl => ?_)
        refine lv_goto (tgt := 28) cx.1 cx.2.1 dX9_head_83 (by decide) ?_
        exact ih _ _ _ _ _ hf _ _ _ wo (lv_sub hl [2, 3, 1, 0] rfl)
      · rw [if_pos c8] at hf
        refine lv_aload_n cx.1 cx.2.1 dX9_head_46 rfl (lv_at hl 0 rfl) ?_
        refine r_getR cx wo ad_1.1 ad_1.2.1 ad_1.2.2 fiX9_19 (fn_1_1 wo.2.2.2.1) (by decide) dX9_head_47 ?_
        refine lv_iload_n cx.1 cx.2.1 dX9_head_50 rfl (lv_at hl 2 rfl) ?_
        refine lv_i2l (v := x2.toInt64) cx.1 cx.2.1 dX9_head_51 rfl ?_
        obtain ⟨q16, e17, hf⟩ := bd_elim hf
        refine r_Vv (rest := []) cx wo (mX5_tell l e17) cvX9_186 rfl ad_4.1 ad_4.2.1 ad_4.2.2 rfl rfl hl.1 rfl (Nat.le_of_ble_eq_true rfl) (hR_ok (by decide)) dX9_head_52 (fun H locs wo => ?_)
        refine lv_iload_n cx.1 cx.2.1 dX9_head_55 rfl (lv_at hl 3 rfl) ?_
        have hq := Option.some.inj hf
        subst hq
        exact r_iret cx wo hr hlk dX9_head_56
set_option maxHeartbeats 1000000 in
set_option maxRecDepth 10000 in
theorem mX9_head (l : Launch) {G : GG} {B : Nat} {x1 : Int32}  {M : Mem} {q : Int32 × Mem} (hf : fX9_head x1 M = some q) : Met l yX9_head (wsG yX9_head cX9_head 4 (some .int)) (rmN (8)) (PcW Ph G B 205 M [.ref (B + 1), .int x1]) (QcI Ph G B 205 q.1 q.2) 0 0 (fr B) := by
  refine mk_Met (own := RX9) rfl rfl (Nat.le_of_ble_eq_true rfl) ?_
  intro p e s m below meth c ls cx hr hlk wo hl
  have hl : lv_has ls 4 [(0, .ref (B + 1)), (1, .int x1)] := hl
  unfold fX9_head at hf
  refine lv_aload_n cx.1 cx.2.1 dX9_head_0 rfl (lv_at hl 0 rfl) ?_
  refine r_getR cx wo ad_1.1 ad_1.2.1 ad_1.2.2 fiX9_26 (fn_1_2 wo.2.2.2.1) (by decide) dX9_head_1 ?_
  refine lv_iload_n cx.1 cx.2.1 dX9_head_4 rfl (lv_at hl 1 rfl) ?_
  obtain ⟨q1, e2, hf⟩ := bd_elim hf
  refine r_Vi (rest := []) cx wo (mX4_has l (by decide) e2) cvX9_134 rfl ad_6.1 ad_6.2.1 ad_6.2.2 rfl rfl hl.1 rfl (Nat.le_of_ble_eq_true rfl) (hR_ok (by decide)) dX9_head_5 (fun H locs wo => ?_)
  refine lv_if_ne (tgt := 13) cx.1 cx.2.1 dX9_head_8 (by decide) (fun c3 => ?_) (fun c3 => ?_)
  · rw [if_neg c3] at hf
    refine lv_aload_n cx.1 cx.2.1 dX9_head_13 rfl (lv_at hl 0 rfl) ?_
    refine r_getR cx wo ad_1.1 ad_1.2.1 ad_1.2.2 fiX9_33 (fn_1_4 wo.2.2.2.1) (by decide) dX9_head_14 ?_
    refine lv_aload_n cx.1 cx.2.1 dX9_head_17 rfl (lv_at hl 0 rfl) ?_
    refine r_getR cx wo ad_1.1 ad_1.2.1 ad_1.2.2 fiX9_26 (fn_1_2 wo.2.2.2.1) (by decide) dX9_head_18 ?_
    obtain ⟨q4, e5, hf⟩ := bd_elim hf
    refine r_Vv (rest := []) cx wo (mX4_copyFrom l (by decide) (by decide) e5) cvX9_190 rfl ad_16.1 ad_16.2.1 ad_16.2.2 rfl rfl hl.1 rfl (Nat.le_of_ble_eq_true rfl) (hR_ok (by decide)) dX9_head_21 (fun H locs wo => ?_)
    refine lv_iconst (v := (-1)) cx.1 cx.2.1 dX9_head_24 (by decide) ?_
    refine lv_istore_n (lv' := [(2, .int (-1)), (0, .ref (B + 1)), (1, .int x1)]) cx.1 cx.2.1 dX9_head_25 rfl hl (by decide) rfl (fun ls hl => ?_)
    refine lv_iconst (v := 0) cx.1 cx.2.1 dX9_head_26 (by decide) ?_
    refine lv_istore_n (lv' := [(3, .int 0), (2, .int (-1)), (0, .ref (B + 1)), (1, .int x1)]) cx.1 cx.2.1 dX9_head_27 rfl hl (by decide) rfl (fun ls hl => ?_)
    exact wX9_head_28 cx hr hlk _ _ _ _ _ _ hf _ _ _ wo (lv_sub hl [2, 3, 1, 0] rfl)
  · rw [if_pos c3] at hf
    refine lv_iconst (v := (-1)) cx.1 cx.2.1 dX9_head_11 (by decide) ?_
    have hq := Option.some.inj hf
    subst hq
    exact r_iret cx wo hr hlk dX9_head_12
set_option maxHeartbeats 1000000 in
set_option maxRecDepth 10000 in
theorem wX9_bumps_49 (cx : Cx p s m args c cX9_bumps 6 RX9 G) (hr : meth.sig.returnType = (some .int)) (hlk : meth.locks = false) : ∀ (n : Nat) (x1 : Int32) (x2 : Int32) (x3 : Int32) (x4 : Int32) (x5 : Int32)  (M : Mem) (q : Int32 × Mem), fX9_bumps_49 n x1 x2 x3 x4 x5 M = some q → ∀ (H : Heap) (locs : List Loc) (ls : Array Slot), Wo Ph G B 205 s M H locs → lv_has ls 6 [(0, .ref (B + 1)), (1, .int x1), (2, .int x2), (3, .int x3), (4, .int x4), (5, .int x5)] → W p l e (rmN (8)) s m args below meth c H locs 0 0 (MQ below (QcI Ph G B 205 q.1 q.2) args s 0 0 (fr B)) (F0 m 49 ls []) := by
  intro n
  induction n with
  | zero =>
    intro x1 x2 x3 x4 x5 M q hf H locs ls wo hl
    have hf : none = some q := hf
    cases hf
  | succ n ih =>
    intro x1 x2 x3 x4 x5 M q hf H locs ls wo hl
    rw [fX9_bumps_49] at hf
    refine lv_iload cx.1 cx.2.1 dX9_bumps_49 (lv_at hl 5 rfl) ?_
    refine lv_bipush (v := 60) cx.1 cx.2.1 dX9_bumps_51 (by decide) ?_
    refine lv_icmp_gt (tgt := 103) cx.1 cx.2.1 dX9_bumps_53 (by decide) (fun c10 => ?_) (fun c10 => ?_)
    · rw [if_pos c10] at hf
      refine lv_iload cx.1 cx.2.1 dX9_bumps_103 (lv_at hl 4 rfl) ?_
      refine lv_if_le (tgt := 118) cx.1 cx.2.1 dX9_bumps_105 (by decide) (fun c11 => ?_) (fun c11 => ?_)
      · rw [if_pos c11] at hf
        refine lv_iload_n cx.1 cx.2.1 dX9_bumps_118 rfl (lv_at hl 3 rfl) ?_
        have hq := Option.some.inj hf
        subst hq
        exact r_iret cx wo hr hlk dX9_bumps_119
      · rw [if_neg c11] at hf
        refine lv_aload_n cx.1 cx.2.1 dX9_bumps_108 rfl (lv_at hl 0 rfl) ?_
        refine r_getR cx wo ad_1.1 ad_1.2.1 ad_1.2.2 fiX9_19 (fn_1_1 wo.2.2.2.1) (by decide) dX9_bumps_109 ?_
        refine lv_iload cx.1 cx.2.1 dX9_bumps_112 (lv_at hl 4 rfl) ?_
        refine lv_i2l (v := x4.toInt64) cx.1 cx.2.1 dX9_bumps_114 rfl ?_
        obtain ⟨q12, e13, hf⟩ := bd_elim hf
        refine r_Vv (rest := []) cx wo (mX5_tell l e13) cvX9_186 rfl ad_4.1 ad_4.2.1 ad_4.2.2 rfl rfl hl.1 rfl (Nat.le_of_ble_eq_true rfl) (hR_ok (by decide)) dX9_bumps_115 (fun H locs wo => ?_)
        refine lv_iload_n cx.1 cx.2.1 dX9_bumps_118 rfl (lv_at hl 3 rfl) ?_
        have hq := Option.some.inj hf
        subst hq
        exact r_iret cx wo hr hlk dX9_bumps_119
    · rw [if_neg c10] at hf
      refine lv_aload_n cx.1 cx.2.1 dX9_bumps_56 rfl (lv_at hl 0 rfl) ?_
      refine lv_aload_n cx.1 cx.2.1 dX9_bumps_57 rfl (lv_at hl 0 rfl) ?_
      refine r_getR cx wo ad_1.1 ad_1.2.1 ad_1.2.2 fiX9_33 (fn_1_4 wo.2.2.2.1) (by decide) dX9_bumps_58 ?_
      refine lv_aload_n cx.1 cx.2.1 dX9_bumps_61 rfl (lv_at hl 0 rfl) ?_
      have hm14 : M.2.2 1 17 ∈ rules := wo.2.2.2.1.2.2.1
      refine r_getR cx wo ad_1.1 ad_1.2.1 ad_1.2.2 fiX9_100 rfl (rul_ok _ hm14).1.1 dX9_bumps_62 ?_
      refine lv_iconst (v := 1) cx.1 cx.2.1 dX9_bumps_65 (by decide) ?_
      obtain ⟨q15, e16, hf⟩ := bd_elim hf
      refine r_Vi (rest := []) cx wo (mX9_passDays l (by decide) hm14 e16) cvX9_182 rfl ad_1.1 ad_1.2.1 ad_1.2.2 rfl rfl hl.1 rfl (Nat.le_of_ble_eq_true rfl) (hR_ok (by decide)) dX9_bumps_66 (fun H locs wo => ?_)
      refine lv_pop cx.1 cx.2.1 dX9_bumps_69 rfl ?_
      refine lv_aload_n cx.1 cx.2.1 dX9_bumps_70 rfl (lv_at hl 0 rfl) ?_
      refine r_getR cx wo ad_1.1 ad_1.2.1 ad_1.2.2 fiX9_64 (fn_1_10 wo.2.2.2.1) (by decide) dX9_bumps_71 ?_
      refine lv_iload_n cx.1 cx.2.1 dX9_bumps_74 rfl (lv_at hl 1 rfl) ?_
      obtain ⟨q17, e18, hf⟩ := bd_elim hf
      refine r_Vi (rest := []) cx wo (mX3_touchedBy l e18) cvX9_161 rfl ad_108.1 ad_108.2.1 ad_108.2.2 rfl rfl hl.1 rfl (Nat.le_of_ble_eq_true rfl) (hR_ok (by decide)) dX9_bumps_75 (fun H locs wo => ?_)
      refine lv_iload_n cx.1 cx.2.1 dX9_bumps_78 rfl (lv_at hl 2 rfl) ?_
      refine lv_icmp_ne (tgt := 97) cx.1 cx.2.1 dX9_bumps_79 (by decide) (fun c19 => ?_) (fun c19 => ?_)
      · rw [if_neg c19] at hf
        obtain ⟨y20, e21, hf⟩ := lt_elim hf
        refine lv_iinc (v := y20) (lv' := [(5, .int y20), (0, .ref (B + 1)), (1, .int x1), (2, .int x2), (3, .int x3), (4, .int x4)]) cx.1 cx.2.1 dX9_bumps_97 hl (k := 5) rfl (by rw [e21]; rfl) (by decide) rfl (fun ls hl => ?_)
        refine lv_goto (tgt := 49) cx.1 cx.2.1 dX9_bumps_100 (by decide) ?_
        exact ih _ _ _ _ _ _ _ hf _ _ _ wo (lv_sub hl [1, 2, 3, 4, 5, 0] rfl)
      · rw [if_pos c19] at hf
        refine lv_iload cx.1 cx.2.1 dX9_bumps_82 (lv_at hl 4 rfl) ?_
        refine lv_if_ne (tgt := 92) cx.1 cx.2.1 dX9_bumps_84 (by decide) (fun c22 => ?_) (fun c22 => ?_)
        · rw [if_neg c22] at hf
          refine lv_iload_n cx.1 cx.2.1 dX9_bumps_92 rfl (lv_at hl 3 rfl) ?_
          refine lv_istore_n (lv' := [(3, .int x3), (0, .ref (B + 1)), (1, .int x1), (2, .int x2), (4, .int x4), (5, .int x5)]) cx.1 cx.2.1 dX9_bumps_93 rfl hl (by decide) rfl (fun ls hl => ?_)
          obtain ⟨y23, e24, hf⟩ := lt_elim hf
          refine lv_iinc (v := y23) (lv' := [(4, .int y23), (3, .int x3), (0, .ref (B + 1)), (1, .int x1), (2, .int x2), (5, .int x5)]) cx.1 cx.2.1 dX9_bumps_94 hl (k := 4) rfl (by rw [e24]; rfl) (by decide) rfl (fun ls hl => ?_)
          obtain ⟨y25, e26, hf⟩ := lt_elim hf
          refine lv_iinc (v := y25) (lv' := [(5, .int y25), (4, .int y23), (3, .int x3), (0, .ref (B + 1)), (1, .int x1), (2, .int x2)]) cx.1 cx.2.1 dX9_bumps_97 hl (k := 5) rfl (by rw [e26]; rfl) (by decide) rfl (fun ls hl => ?_)
          refine lv_goto (tgt := 49) cx.1 cx.2.1 dX9_bumps_100 (by decide) ?_
          exact ih _ _ _ _ _ _ _ hf _ _ _ wo (lv_sub hl [3, 4, 5, 2, 1, 0] rfl)
        · rw [if_pos c22] at hf
          refine lv_iload cx.1 cx.2.1 dX9_bumps_87 (lv_at hl 5 rfl) ?_
          refine lv_goto (tgt := 93) cx.1 cx.2.1 dX9_bumps_89 (by decide) ?_
          refine lv_istore_n (lv' := [(3, .int x5), (0, .ref (B + 1)), (1, .int x1), (2, .int x2), (4, .int x4), (5, .int x5)]) cx.1 cx.2.1 dX9_bumps_93 rfl hl (by decide) rfl (fun ls hl => ?_)
          obtain ⟨y27, e28, hf⟩ := lt_elim hf
          refine lv_iinc (v := y27) (lv' := [(4, .int y27), (3, .int x5), (0, .ref (B + 1)), (1, .int x1), (2, .int x2), (5, .int x5)]) cx.1 cx.2.1 dX9_bumps_94 hl (k := 4) rfl (by rw [e28]; rfl) (by decide) rfl (fun ls hl => ?_)
          obtain ⟨y29, e30, hf⟩ := lt_elim hf
          refine lv_iinc (v := y29) (lv' := [(5, .int y29), (4, .int y27), (3, .int x5), (0, .ref (B + 1)), (1, .int x1), (2, .int x2)]) cx.1 cx.2.1 dX9_bumps_97 hl (k := 5) rfl (by rw [e30]; rfl) (by decide) rfl (fun ls hl => ?_)
          refine lv_goto (tgt := 49) cx.1 cx.2.1 dX9_bumps_100 (by decide) ?_
          exact ih _ _ _ _ _ _ _ hf _ _ _ wo (lv_sub hl [3, 4, 5, 2, 1, 0] rfl)
set_option maxHeartbeats 1000000 in
set_option maxRecDepth 10000 in
theorem mX9_bumps (l : Launch) {G : GG} {B : Nat} {x1 : Int32} {x2 : Int32}  {M : Mem} {q : Int32 × Mem} (hf : fX9_bumps x1 x2 M = some q) : Met l yX9_bumps (wsG yX9_bumps cX9_bumps 6 (some .int)) (rmN (8)) (PcW Ph G B 205 M [.ref (B + 1), .int x1, .int x2]) (QcI Ph G B 205 q.1 q.2) 0 0 (fr B) := by
  refine mk_Met (own := RX9) rfl rfl (Nat.le_of_ble_eq_true rfl) ?_
  intro p e s m below meth c ls cx hr hlk wo hl
  have hl : lv_has ls 6 [(0, .ref (B + 1)), (1, .int x1), (2, .int x2)] := hl
  unfold fX9_bumps at hf
  refine lv_aload_n cx.1 cx.2.1 dX9_bumps_0 rfl (lv_at hl 0 rfl) ?_
  refine r_getR cx wo ad_1.1 ad_1.2.1 ad_1.2.2 fiX9_26 (fn_1_2 wo.2.2.2.1) (by decide) dX9_bumps_1 ?_
  refine lv_iload_n cx.1 cx.2.1 dX9_bumps_4 rfl (lv_at hl 1 rfl) ?_
  obtain ⟨q1, e2, hf⟩ := bd_elim hf
  refine r_Vi (rest := []) cx wo (mX4_has l (by decide) e2) cvX9_134 rfl ad_6.1 ad_6.2.1 ad_6.2.2 rfl rfl hl.1 rfl (Nat.le_of_ble_eq_true rfl) (hR_ok (by decide)) dX9_bumps_5 (fun H locs wo => ?_)
  refine lv_if_eq (tgt := 27) cx.1 cx.2.1 dX9_bumps_8 (by decide) (fun c3 => ?_) (fun c3 => ?_)
  · rw [if_pos c3] at hf
    refine lv_iconst (v := (-1)) cx.1 cx.2.1 dX9_bumps_27 (by decide) ?_
    have hq := Option.some.inj hf
    subst hq
    exact r_iret cx wo hr hlk dX9_bumps_28
  · rw [if_neg c3] at hf
    refine lv_aload_n cx.1 cx.2.1 dX9_bumps_11 rfl (lv_at hl 0 rfl) ?_
    refine r_getR cx wo ad_1.1 ad_1.2.1 ad_1.2.2 fiX9_26 (fn_1_2 wo.2.2.2.1) (by decide) dX9_bumps_12 ?_
    refine lv_iload_n cx.1 cx.2.1 dX9_bumps_15 rfl (lv_at hl 2 rfl) ?_
    obtain ⟨q4, e5, hf⟩ := bd_elim hf
    refine r_Vi (rest := []) cx wo (mX4_has l (by decide) e5) cvX9_134 rfl ad_6.1 ad_6.2.1 ad_6.2.2 rfl rfl hl.1 rfl (Nat.le_of_ble_eq_true rfl) (hR_ok (by decide)) dX9_bumps_16 (fun H locs wo => ?_)
    refine lv_if_eq (tgt := 27) cx.1 cx.2.1 dX9_bumps_19 (by decide) (fun c6 => ?_) (fun c6 => ?_)
    · rw [if_pos c6] at hf
      refine lv_iconst (v := (-1)) cx.1 cx.2.1 dX9_bumps_27 (by decide) ?_
      have hq := Option.some.inj hf
      subst hq
      exact r_iret cx wo hr hlk dX9_bumps_28
    · rw [if_neg c6] at hf
      refine lv_iload_n cx.1 cx.2.1 dX9_bumps_22 rfl (lv_at hl 1 rfl) ?_
      refine lv_iload_n cx.1 cx.2.1 dX9_bumps_23 rfl (lv_at hl 2 rfl) ?_
      refine lv_icmp_ne (tgt := 29) cx.1 cx.2.1 dX9_bumps_24 (by decide) (fun c7 => ?_) (fun c7 => ?_)
      · rw [if_neg c7] at hf
        refine lv_aload_n cx.1 cx.2.1 dX9_bumps_29 rfl (lv_at hl 0 rfl) ?_
        refine r_getR cx wo ad_1.1 ad_1.2.1 ad_1.2.2 fiX9_33 (fn_1_4 wo.2.2.2.1) (by decide) dX9_bumps_30 ?_
        refine lv_aload_n cx.1 cx.2.1 dX9_bumps_33 rfl (lv_at hl 0 rfl) ?_
        refine r_getR cx wo ad_1.1 ad_1.2.1 ad_1.2.2 fiX9_26 (fn_1_2 wo.2.2.2.1) (by decide) dX9_bumps_34 ?_
        obtain ⟨q8, e9, hf⟩ := bd_elim hf
        refine r_Vv (rest := []) cx wo (mX4_copyFrom l (by decide) (by decide) e9) cvX9_190 rfl ad_16.1 ad_16.2.1 ad_16.2.2 rfl rfl hl.1 rfl (Nat.le_of_ble_eq_true rfl) (hR_ok (by decide)) dX9_bumps_37 (fun H locs wo => ?_)
        refine lv_bipush (v := (-2)) cx.1 cx.2.1 dX9_bumps_40 (by decide) ?_
        refine lv_istore_n (lv' := [(3, .int (-2)), (0, .ref (B + 1)), (1, .int x1), (2, .int x2)]) cx.1 cx.2.1 dX9_bumps_42 rfl hl (by decide) rfl (fun ls hl => ?_)
        refine lv_iconst (v := 0) cx.1 cx.2.1 dX9_bumps_43 (by decide) ?_
        refine lv_istore (lv' := [(4, .int 0), (3, .int (-2)), (0, .ref (B + 1)), (1, .int x1), (2, .int x2)]) cx.1 cx.2.1 dX9_bumps_44 hl (by decide) rfl (fun ls hl => ?_)
        refine lv_iconst (v := 1) cx.1 cx.2.1 dX9_bumps_46 (by decide) ?_
        refine lv_istore (lv' := [(5, .int 1), (4, .int 0), (3, .int (-2)), (0, .ref (B + 1)), (1, .int x1), (2, .int x2)]) cx.1 cx.2.1 dX9_bumps_47 hl (by decide) rfl (fun ls hl => ?_)
        exact wX9_bumps_49 cx hr hlk _ _ _ _ _ _ _ _ hf _ _ _ wo (lv_sub hl [3, 4, 5, 2, 1, 0] rfl)
      · rw [if_pos c7] at hf
        refine lv_iconst (v := (-1)) cx.1 cx.2.1 dX9_bumps_27 (by decide) ?_
        have hq := Option.some.inj hf
        subst hq
        exact r_iret cx wo hr hlk dX9_bumps_28
set_option maxHeartbeats 1000000 in
set_option maxRecDepth 10000 in
theorem wX9_blades_41 (cx : Cx p s m args c cX9_blades 5 RX9 G) (hr : meth.sig.returnType = (some .int)) (hlk : meth.locks = false) : ∀ (n : Nat) (x1 : Int32) (x2 : Int32) (x3 : Int32) (x4 : Int32)  (M : Mem) (q : Int32 × Mem), fX9_blades_41 n x1 x2 x3 x4 M = some q → ∀ (H : Heap) (locs : List Loc) (ls : Array Slot), Wo Ph G B 205 s M H locs → lv_has ls 5 [(0, .ref (B + 1)), (1, .int x1), (2, .int x2), (3, .int x3), (4, .int x4)] → W p l e (rmN (8)) s m args below meth c H locs 0 0 (MQ below (QcI Ph G B 205 q.1 q.2) args s 0 0 (fr B)) (F0 m 41 ls []) := by
  intro n
  induction n with
  | zero =>
    intro x1 x2 x3 x4 M q hf H locs ls wo hl
    have hf : none = some q := hf
    cases hf
  | succ n ih =>
    intro x1 x2 x3 x4 M q hf H locs ls wo hl
    rw [fX9_blades_41] at hf
    refine lv_iload cx.1 cx.2.1 dX9_blades_41 (lv_at hl 4 rfl) ?_
    refine lv_iload_n cx.1 cx.2.1 dX9_blades_43 rfl (lv_at hl 1 rfl) ?_
    refine lv_icmp_ge (tgt := 87) cx.1 cx.2.1 dX9_blades_44 (by decide) (fun c7 => ?_) (fun c7 => ?_)
    · rw [if_pos c7] at hf
      refine lv_aload_n cx.1 cx.2.1 dX9_blades_87 rfl (lv_at hl 0 rfl) ?_
      refine r_getR cx wo ad_1.1 ad_1.2.1 ad_1.2.2 fiX9_19 (fn_1_1 wo.2.2.2.1) (by decide) dX9_blades_88 ?_
      refine lv_iload_n cx.1 cx.2.1 dX9_blades_91 rfl (lv_at hl 3 rfl) ?_
      refine lv_i2l (v := x3.toInt64) cx.1 cx.2.1 dX9_blades_92 rfl ?_
      obtain ⟨q8, e9, hf⟩ := bd_elim hf
      refine r_Vv (rest := []) cx wo (mX5_tell l e9) cvX9_186 rfl ad_4.1 ad_4.2.1 ad_4.2.2 rfl rfl hl.1 rfl (Nat.le_of_ble_eq_true rfl) (hR_ok (by decide)) dX9_blades_93 (fun H locs wo => ?_)
      refine lv_iload_n cx.1 cx.2.1 dX9_blades_96 rfl (lv_at hl 2 rfl) ?_
      have hq := Option.some.inj hf
      subst hq
      exact r_iret cx wo hr hlk dX9_blades_97
    · rw [if_neg c7] at hf
      refine lv_aload_n cx.1 cx.2.1 dX9_blades_47 rfl (lv_at hl 0 rfl) ?_
      refine lv_aload_n cx.1 cx.2.1 dX9_blades_48 rfl (lv_at hl 0 rfl) ?_
      refine r_getR cx wo ad_1.1 ad_1.2.1 ad_1.2.2 fiX9_33 (fn_1_4 wo.2.2.2.1) (by decide) dX9_blades_49 ?_
      refine lv_aload_n cx.1 cx.2.1 dX9_blades_52 rfl (lv_at hl 0 rfl) ?_
      have hm10 : M.2.2 1 17 ∈ rules := wo.2.2.2.1.2.2.1
      refine r_getR cx wo ad_1.1 ad_1.2.1 ad_1.2.2 fiX9_100 rfl (rul_ok _ hm10).1.1 dX9_blades_53 ?_
      refine lv_iconst (v := 1) cx.1 cx.2.1 dX9_blades_56 (by decide) ?_
      obtain ⟨q11, e12, hf⟩ := bd_elim hf
      refine r_Vi (rest := []) cx wo (mX9_passDays l (by decide) hm10 e12) cvX9_182 rfl ad_1.1 ad_1.2.1 ad_1.2.2 rfl rfl hl.1 rfl (Nat.le_of_ble_eq_true rfl) (hR_ok (by decide)) dX9_blades_57 (fun H locs wo => ?_)
      refine lv_pop cx.1 cx.2.1 dX9_blades_60 rfl ?_
      refine lv_iload_n cx.1 cx.2.1 dX9_blades_61 rfl (lv_at hl 2 rfl) ?_
      refine lv_aload_n cx.1 cx.2.1 dX9_blades_62 rfl (lv_at hl 0 rfl) ?_
      refine r_getR cx wo ad_1.1 ad_1.2.1 ad_1.2.2 fiX9_64 (fn_1_10 wo.2.2.2.1) (by decide) dX9_blades_63 ?_
      obtain ⟨q13, e14, hf⟩ := bd_elim hf
      refine r_Vi (rest := [.int x2]) cx wo (mX3_touchers l e14) cvX9_263 rfl ad_108.1 ad_108.2.1 ad_108.2.2 rfl rfl hl.1 rfl (Nat.le_of_ble_eq_true rfl) (hR_ok (by decide)) dX9_blades_66 (fun H locs wo => ?_)
      refine lv_iand cx.1 cx.2.1 dX9_blades_69 ?_
      obtain ⟨y15, e16, hf⟩ := lt_elim hf
      refine r_topi e16 ?_
      refine lv_istore_n (lv' := [(2, .int y15), (0, .ref (B + 1)), (1, .int x1), (3, .int x3), (4, .int x4)]) cx.1 cx.2.1 dX9_blades_70 rfl hl (by decide) rfl (fun ls hl => ?_)
      refine lv_iload_n cx.1 cx.2.1 dX9_blades_71 rfl (lv_at hl 3 rfl) ?_
      refine lv_aload_n cx.1 cx.2.1 dX9_blades_72 rfl (lv_at hl 1 rfl) ?_
      refine r_getR cx wo ad_1.1 ad_1.2.1 ad_1.2.2 fiX9_64 (fn_1_10 wo.2.2.2.1) (by decide) dX9_blades_73 ?_
      obtain ⟨q17, e18, hf⟩ := bd_elim hf
      refine r_Vi (rest := [.int x3]) cx wo (mX3_touchedOnes l e18) cvX9_266 rfl ad_108.1 ad_108.2.1 ad_108.2.2 rfl rfl hl.1 rfl (Nat.le_of_ble_eq_true rfl) (hR_ok (by decide)) dX9_blades_76 (fun H locs wo => ?_)
      refine lv_iand cx.1 cx.2.1 dX9_blades_79 ?_
      obtain ⟨y19, e20, hf⟩ := lt_elim hf
      refine r_topi e20 ?_
      refine lv_istore_n (lv' := [(3, .int y19), (2, .int y15), (0, .ref (B + 1)), (1, .int x1), (4, .int x4)]) cx.1 cx.2.1 dX9_blades_80 rfl hl (by decide) rfl (fun ls hl => ?_)
      obtain ⟨y21, e22, hf⟩ := lt_elim hf
      refine lv_iinc (v := y21) (lv' := [(4, .int y21), (3, .int y19), (2, .int y15), (0, .ref (B + 1)), (1, .int x1)]) cx.1 cx.2.1 dX9_blades_81 hl (k := 4) rfl (by rw [e22]; rfl) (by decide) rfl (fun ls hl => ?_)
      refine lv_goto (tgt := 41) cx.1 cx.2.1 dX9_blades_84 (by decide) ?_
      exact ih _ _ _ _ _ _ hf _ _ _ wo (lv_sub hl [3, 4, 2, 1, 0] rfl)
set_option maxHeartbeats 1000000 in
set_option maxRecDepth 10000 in
theorem mX9_blades (l : Launch) {G : GG} {B : Nat} {x1 : Int32}  {M : Mem} {q : Int32 × Mem} (hf : fX9_blades x1 M = some q) : Met l yX9_blades (wsG yX9_blades cX9_blades 5 (some .int)) (rmN (8)) (PcW Ph G B 205 M [.ref (B + 1), .int x1]) (QcI Ph G B 205 q.1 q.2) 0 0 (fr B) := by
  refine mk_Met (own := RX9) rfl rfl (Nat.le_of_ble_eq_true rfl) ?_
  intro p e s m below meth c ls cx hr hlk wo hl
  have hl : lv_has ls 5 [(0, .ref (B + 1)), (1, .int x1)] := hl
  unfold fX9_blades at hf
  refine lv_iload_n cx.1 cx.2.1 dX9_blades_0 rfl (lv_at hl 1 rfl) ?_
  refine lv_iconst (v := 1) cx.1 cx.2.1 dX9_blades_1 (by decide) ?_
  refine lv_icmp_lt (tgt := 11) cx.1 cx.2.1 dX9_blades_2 (by decide) (fun c1 => ?_) (fun c1 => ?_)
  · rw [if_pos c1] at hf
    refine lv_iconst (v := (-1)) cx.1 cx.2.1 dX9_blades_11 (by decide) ?_
    have hq := Option.some.inj hf
    subst hq
    exact r_iret cx wo hr hlk dX9_blades_12
  · rw [if_neg c1] at hf
    refine lv_iload_n cx.1 cx.2.1 dX9_blades_5 rfl (lv_at hl 1 rfl) ?_
    refine lv_bipush (v := 9) cx.1 cx.2.1 dX9_blades_6 (by decide) ?_
    refine lv_icmp_le (tgt := 13) cx.1 cx.2.1 dX9_blades_8 (by decide) (fun c2 => ?_) (fun c2 => ?_)
    · rw [if_pos c2] at hf
      refine lv_aload_n cx.1 cx.2.1 dX9_blades_13 rfl (lv_at hl 0 rfl) ?_
      refine r_getR cx wo ad_1.1 ad_1.2.1 ad_1.2.2 fiX9_33 (fn_1_4 wo.2.2.2.1) (by decide) dX9_blades_14 ?_
      refine lv_aload_n cx.1 cx.2.1 dX9_blades_17 rfl (lv_at hl 0 rfl) ?_
      refine r_getR cx wo ad_1.1 ad_1.2.1 ad_1.2.2 fiX9_26 (fn_1_2 wo.2.2.2.1) (by decide) dX9_blades_18 ?_
      obtain ⟨q3, e4, hf⟩ := bd_elim hf
      refine r_Vv (rest := []) cx wo (mX4_copyFrom l (by decide) (by decide) e4) cvX9_190 rfl ad_16.1 ad_16.2.1 ad_16.2.2 rfl rfl hl.1 rfl (Nat.le_of_ble_eq_true rfl) (hR_ok (by decide)) dX9_blades_21 (fun H locs wo => ?_)
      refine lv_iconst (v := 1) cx.1 cx.2.1 dX9_blades_24 (by decide) ?_
      refine lv_aload_n cx.1 cx.2.1 dX9_blades_25 rfl (lv_at hl 0 rfl) ?_
      refine r_getR cx wo ad_1.1 ad_1.2.1 ad_1.2.2 fiX9_26 (fn_1_2 wo.2.2.2.1) (by decide) dX9_blades_26 ?_
      refine r_getI cx wo ad_6.1 ad_6.2.1 ad_6.2.2 fiX9_282 dX9_blades_29 ?_
      refine lv_ishl cx.1 cx.2.1 dX9_blades_32 ?_
      refine lv_iconst (v := 1) cx.1 cx.2.1 dX9_blades_33 (by decide) ?_
      refine lv_isub cx.1 cx.2.1 dX9_blades_34 ?_
      obtain ⟨y5, e6, hf⟩ := lt_elim hf
      refine r_topi e6 ?_
      refine lv_istore_n (lv' := [(2, .int y5), (0, .ref (B + 1)), (1, .int x1)]) cx.1 cx.2.1 dX9_blades_35 rfl hl (by decide) rfl (fun ls hl => ?_)
      refine lv_iload_n cx.1 cx.2.1 dX9_blades_36 rfl (lv_at hl 0 rfl) ?_
      refine lv_istore_n (lv' := [(3, .int y5), (2, .int y5), (0, .ref (B + 1)), (1, .int x1)]) cx.1 cx.2.1 dX9_blades_37 rfl hl (by decide) rfl (fun ls hl => ?_)
      refine lv_iconst (v := 0) cx.1 cx.2.1 dX9_blades_38 (by decide) ?_
      refine lv_istore (lv' := [(4, .int 0), (3, .int y5), (2, .int y5), (0, .ref (B + 1)), (1, .int x1)]) cx.1 cx.2.1 dX9_blades_39 hl (by decide) rfl (fun ls hl => ?_)
      exact wX9_blades_41 cx hr hlk _ _ _ _ _ _ _ hf _ _ _ wo (lv_sub hl [3, 4, 2, 1, 0] rfl)
    · rw [if_neg c2] at hf
      refine lv_iconst (v := (-1)) cx.1 cx.2.1 dX9_blades_11 (by decide) ?_
      have hq := Option.some.inj hf
      subst hq
      exact r_iret cx wo hr hlk dX9_blades_12
set_option maxHeartbeats 1000000 in
set_option maxRecDepth 10000 in
theorem wX9_isSeen_2 (cx : Cx p s m args c cX9_isSeen 4 RX9 G) (hr : meth.sig.returnType = (some .boolean)) (hlk : meth.locks = false) : ∀ (n : Nat) (x1 : Int32) (x2 : Int32) (x3 : Int32)  (M : Mem) (q : Int32 × Mem), fX9_isSeen_2 n x1 x2 x3 M = some q → ∀ (H : Heap) (locs : List Loc) (ls : Array Slot), Wo Ph G B 205 s M H locs → lv_has ls 4 [(0, .ref (B + 1)), (1, .int x1), (2, .int x2), (3, .int x3)] → W p l e (rmN (2)) s m args below meth c H locs 0 0 (MQ below (QcI Ph G B 205 q.1 q.2) args s 0 0 (fr B)) (F0 m 2 ls []) := by
  intro n
  induction n with
  | zero =>
    intro x1 x2 x3 M q hf H locs ls wo hl
    have hf : none = some q := hf
    cases hf
  | succ n ih =>
    intro x1 x2 x3 M q hf H locs ls wo hl
    rw [fX9_isSeen_2] at hf
    refine lv_iload_n cx.1 cx.2.1 dX9_isSeen_2 rfl (lv_at hl 3 rfl) ?_
    refine lv_iload_n cx.1 cx.2.1 dX9_isSeen_3 rfl (lv_at hl 2 rfl) ?_
    refine lv_icmp_ge (tgt := 34) cx.1 cx.2.1 dX9_isSeen_4 (by decide) (fun c1 => ?_) (fun c1 => ?_)
    · rw [if_pos c1] at hf
      refine lv_iconst (v := 0) cx.1 cx.2.1 dX9_isSeen_34 (by decide) ?_
      have hq := Option.some.inj hf
      subst hq
      exact r_zret cx wo hr hlk (Or.inl rfl) dX9_isSeen_35
    · rw [if_neg c1] at hf
      refine lv_iload_n cx.1 cx.2.1 dX9_isSeen_7 rfl (lv_at hl 3 rfl) ?_
      refine lv_aload_n cx.1 cx.2.1 dX9_isSeen_8 rfl (lv_at hl 0 rfl) ?_
      refine r_getR cx wo ad_1.1 ad_1.2.1 ad_1.2.2 fiX9_89 (fn_1_15 wo.2.2.2.1) (by decide) dX9_isSeen_9 ?_
      refine r_alen (v := 61) cx wo ad_144.1 ad_144.2.1 ad_144.2.2 (by rw [ln_144]; rfl) dX9_isSeen_12 ?_
      refine lv_icmp_ge (tgt := 34) cx.1 cx.2.1 dX9_isSeen_13 (by decide) (fun c2 => ?_) (fun c2 => ?_)
      · rw [if_pos c2] at hf
        refine lv_iconst (v := 0) cx.1 cx.2.1 dX9_isSeen_34 (by decide) ?_
        have hq := Option.some.inj hf
        subst hq
        exact r_zret cx wo hr hlk (Or.inl rfl) dX9_isSeen_35
      · rw [if_neg c2] at hf
        refine lv_aload_n cx.1 cx.2.1 dX9_isSeen_16 rfl (lv_at hl 0 rfl) ?_
        refine r_getR cx wo ad_1.1 ad_1.2.1 ad_1.2.2 fiX9_89 (fn_1_15 wo.2.2.2.1) (by decide) dX9_isSeen_17 ?_
        refine lv_iload_n cx.1 cx.2.1 dX9_isSeen_20 rfl (lv_at hl 3 rfl) ?_
        obtain ⟨g3, hf⟩ := gd_elim hf
        refine r_iald cx wo ad_144.1 ad_144.2.1 ad_144.2.2 (by rw [ln_144]; exact g3) dX9_isSeen_21 ?_
        refine lv_iload_n cx.1 cx.2.1 dX9_isSeen_22 rfl (lv_at hl 1 rfl) ?_
        refine lv_icmp_ne (tgt := 28) cx.1 cx.2.1 dX9_isSeen_23 (by decide) (fun c4 => ?_) (fun c4 => ?_)
        · rw [if_neg c4] at hf
          obtain ⟨y5, e6, hf⟩ := lt_elim hf
          refine lv_iinc (v := y5) (lv' := [(3, .int y5), (0, .ref (B + 1)), (1, .int x1), (2, .int x2)]) cx.1 cx.2.1 dX9_isSeen_28 hl (k := 3) rfl (by rw [e6]; rfl) (by decide) rfl (fun ls hl => ?_)
          refine lv_goto (tgt := 2) cx.1 cx.2.1 dX9_isSeen_31 (by decide) ?_
          exact ih _ _ _ _ _ hf _ _ _ wo (lv_sub hl [1, 2, 3, 0] rfl)
        · rw [if_pos c4] at hf
          refine lv_iconst (v := 1) cx.1 cx.2.1 dX9_isSeen_26 (by decide) ?_
          have hq := Option.some.inj hf
          subst hq
          exact r_zret cx wo hr hlk (Or.inr rfl) dX9_isSeen_27
set_option maxHeartbeats 1000000 in
set_option maxRecDepth 10000 in
theorem mX9_isSeen (l : Launch) {G : GG} {B : Nat} {x1 : Int32} {x2 : Int32}  {M : Mem} {q : Int32 × Mem} (hf : fX9_isSeen x1 x2 M = some q) : Met l yX9_isSeen (wsG yX9_isSeen cX9_isSeen 4 (some .boolean)) (rmN (2)) (PcW Ph G B 205 M [.ref (B + 1), .int x1, .int x2]) (QcI Ph G B 205 q.1 q.2) 0 0 (fr B) := by
  refine mk_Met (own := RX9) rfl rfl (Nat.le_of_ble_eq_true rfl) ?_
  intro p e s m below meth c ls cx hr hlk wo hl
  have hl : lv_has ls 4 [(0, .ref (B + 1)), (1, .int x1), (2, .int x2)] := hl
  unfold fX9_isSeen at hf
  refine lv_iconst (v := 0) cx.1 cx.2.1 dX9_isSeen_0 (by decide) ?_
  refine lv_istore_n (lv' := [(3, .int 0), (0, .ref (B + 1)), (1, .int x1), (2, .int x2)]) cx.1 cx.2.1 dX9_isSeen_1 rfl hl (by decide) rfl (fun ls hl => ?_)
  exact wX9_isSeen_2 cx hr hlk _ _ _ _ _ _ hf _ _ _ wo (lv_sub hl [1, 2, 3, 0] rfl)
set_option maxHeartbeats 1000000 in
set_option maxRecDepth 10000 in
theorem wX9_round_30 (cx : Cx p s m args c cX9_round 5 RX9 G) (hr : meth.sig.returnType = (some .int)) (hlk : meth.locks = false) : ∀ (n : Nat) (x1 : Int32) (x2 : Int32) (x3 : Int32)  (M : Mem) (q : Int32 × Mem), fX9_round_30 n x1 x2 x3 M = some q → ∀ (H : Heap) (locs : List Loc) (ls : Array Slot), Wo Ph G B 205 s M H locs → lv_has ls 5 [(0, .ref (B + 1)), (1, .int x1), (2, .int x2), (3, .int x3)] → W p l e (rmN (8)) s m args below meth c H locs 0 0 (MQ below (QcI Ph G B 205 q.1 q.2) args s 0 0 (fr B)) (F0 m 30 ls []) := by
  intro n
  induction n with
  | zero =>
    intro x1 x2 x3 M q hf H locs ls wo hl
    have hf : none = some q := hf
    cases hf
  | succ n ih =>
    intro x1 x2 x3 M q hf H locs ls wo hl
    rw [fX9_round_30] at hf
    refine lv_iload_n cx.1 cx.2.1 dX9_round_30 rfl (lv_at hl 3 rfl) ?_
    refine lv_bipush (v := 60) cx.1 cx.2.1 dX9_round_31 (by decide) ?_
    refine lv_icmp_gt (tgt := 103) cx.1 cx.2.1 dX9_round_33 (by decide) (fun c8 => ?_) (fun c8 => ?_)
    · rw [if_pos c8] at hf
      refine lv_bipush (v := (-2)) cx.1 cx.2.1 dX9_round_103 (by decide) ?_
      have hq := Option.some.inj hf
      subst hq
      exact r_iret cx wo hr hlk dX9_round_105
    · rw [if_neg c8] at hf
      refine lv_aload_n cx.1 cx.2.1 dX9_round_36 rfl (lv_at hl 0 rfl) ?_
      refine lv_aload_n cx.1 cx.2.1 dX9_round_37 rfl (lv_at hl 0 rfl) ?_
      refine r_getR cx wo ad_1.1 ad_1.2.1 ad_1.2.2 fiX9_33 (fn_1_4 wo.2.2.2.1) (by decide) dX9_round_38 ?_
      refine lv_aload_n cx.1 cx.2.1 dX9_round_41 rfl (lv_at hl 0 rfl) ?_
      have hm9 : M.2.2 1 17 ∈ rules := wo.2.2.2.1.2.2.1
      refine r_getR cx wo ad_1.1 ad_1.2.1 ad_1.2.2 fiX9_100 rfl (rul_ok _ hm9).1.1 dX9_round_42 ?_
      refine lv_iconst (v := 1) cx.1 cx.2.1 dX9_round_45 (by decide) ?_
      obtain ⟨q10, e11, hf⟩ := bd_elim hf
      refine r_Vi (rest := []) cx wo (mX9_passDays l (by decide) hm9 e11) cvX9_182 rfl ad_1.1 ad_1.2.1 ad_1.2.2 rfl rfl hl.1 rfl (Nat.le_of_ble_eq_true rfl) (hR_ok (by decide)) dX9_round_46 (fun H locs wo => ?_)
      refine lv_pop cx.1 cx.2.1 dX9_round_49 rfl ?_
      refine lv_aload_n cx.1 cx.2.1 dX9_round_50 rfl (lv_at hl 0 rfl) ?_
      refine r_getR cx wo ad_1.1 ad_1.2.1 ad_1.2.2 fiX9_33 (fn_1_4 wo.2.2.2.1) (by decide) dX9_round_51 ?_
      obtain ⟨q12, e13, hf⟩ := bd_elim hf
      refine r_Vi (rest := []) cx wo (mX4_orderNumber l (by decide) e13) cvX9_285 rfl ad_16.1 ad_16.2.1 ad_16.2.2 rfl rfl hl.1 rfl (Nat.le_of_ble_eq_true rfl) (hR_ok (by decide)) dX9_round_54 (fun H locs wo => ?_)
      refine lv_istore (lv' := [(4, .int q12.1), (0, .ref (B + 1)), (1, .int x1), (2, .int x2), (3, .int x3)]) cx.1 cx.2.1 dX9_round_57 hl (by decide) rfl (fun ls hl => ?_)
      refine lv_iload cx.1 cx.2.1 dX9_round_59 (lv_at hl 0 rfl) ?_
      refine lv_iload_n cx.1 cx.2.1 dX9_round_61 rfl (lv_at hl 2 rfl) ?_
      refine lv_icmp_ne (tgt := 76) cx.1 cx.2.1 dX9_round_62 (by decide) (fun c14 => ?_) (fun c14 => ?_)
      · rw [if_neg c14] at hf
        refine lv_aload_n cx.1 cx.2.1 dX9_round_76 rfl (lv_at hl 1 rfl) ?_
        refine lv_iload cx.1 cx.2.1 dX9_round_77 (lv_at hl 0 rfl) ?_
        refine lv_iload_n cx.1 cx.2.1 dX9_round_79 rfl (lv_at hl 3 rfl) ?_
        obtain ⟨q15, e16, hf⟩ := bd_elim hf
        refine r_Vi (rest := []) cx wo (mX9_isSeen l e16) cvX9_288 rfl ad_1.1 ad_1.2.1 ad_1.2.2 rfl rfl hl.1 rfl (Nat.le_of_ble_eq_true rfl) (hR_ok (by decide)) dX9_round_80 (fun H locs wo => ?_)
        refine lv_if_ne (tgt := 97) cx.1 cx.2.1 dX9_round_83 (by decide) (fun c17 => ?_) (fun c17 => ?_)
        · rw [if_neg c17] at hf
          obtain ⟨y18, e19, hf⟩ := lt_elim hf
          refine lv_iinc (v := y18) (lv' := [(3, .int y18), (4, .int q12.1), (0, .ref (B + 1)), (1, .int x1), (2, .int x2)]) cx.1 cx.2.1 dX9_round_97 hl (k := 4) rfl (by rw [e19]; rfl) (by decide) rfl (fun ls hl => ?_)
          refine lv_goto (tgt := 30) cx.1 cx.2.1 dX9_round_100 (by decide) ?_
          exact ih _ _ _ _ _ hf _ _ _ wo (lv_sub hl [2, 3, 4, 0] rfl)
        · rw [if_pos c17] at hf
          refine lv_aload_n cx.1 cx.2.1 dX9_round_86 rfl (lv_at hl 1 rfl) ?_
          refine r_getR cx wo ad_1.1 ad_1.2.1 ad_1.2.2 fiX9_89 (fn_1_15 wo.2.2.2.1) (by decide) dX9_round_87 ?_
          refine lv_iload_n cx.1 cx.2.1 dX9_round_90 rfl (lv_at hl 3 rfl) ?_
          refine lv_iload cx.1 cx.2.1 dX9_round_91 (lv_at hl 0 rfl) ?_
          obtain ⟨g20, hf⟩ := gd_elim hf
          obtain ⟨M21, e22, hf⟩ := lt_elim hf
          refine r_iast cx wo ad_144.1 ad_144.2.1 ad_144.2.2 (by rw [ln_144]; exact g20) dX9_round_93 (fun H locs wo => ?_)
          rw [← e22] at wo
          obtain ⟨y23, e24, hf⟩ := lt_elim hf
          refine lv_iinc (v := y23) (lv' := [(2, .int y23), (4, .int q12.1), (0, .ref (B + 1)), (1, .int x1), (3, .int x3)]) cx.1 cx.2.1 dX9_round_94 hl (k := 3) rfl (by rw [e24]; rfl) (by decide) rfl (fun ls hl => ?_)
          obtain ⟨y25, e26, hf⟩ := lt_elim hf
          refine lv_iinc (v := y25) (lv' := [(3, .int y25), (2, .int y23), (4, .int q12.1), (0, .ref (B + 1)), (1, .int x1)]) cx.1 cx.2.1 dX9_round_97 hl (k := 4) rfl (by rw [e26]; rfl) (by decide) rfl (fun ls hl => ?_)
          refine lv_goto (tgt := 30) cx.1 cx.2.1 dX9_round_100 (by decide) ?_
          exact ih _ _ _ _ _ hf _ _ _ wo (lv_sub hl [3, 4, 1, 0] rfl)
      · rw [if_pos c14] at hf
        refine lv_aload_n cx.1 cx.2.1 dX9_round_65 rfl (lv_at hl 1 rfl) ?_
        refine r_getR cx wo ad_1.1 ad_1.2.1 ad_1.2.2 fiX9_19 (fn_1_1 wo.2.2.2.1) (by decide) dX9_round_66 ?_
        refine lv_iload_n cx.1 cx.2.1 dX9_round_69 rfl (lv_at hl 3 rfl) ?_
        refine lv_i2l (v := x2.toInt64) cx.1 cx.2.1 dX9_round_70 rfl ?_
        obtain ⟨q27, e28, hf⟩ := bd_elim hf
        refine r_Vv (rest := []) cx wo (mX5_tell l e28) cvX9_186 rfl ad_4.1 ad_4.2.1 ad_4.2.2 rfl rfl hl.1 rfl (Nat.le_of_ble_eq_true rfl) (hR_ok (by decide)) dX9_round_71 (fun H locs wo => ?_)
        refine lv_iload_n cx.1 cx.2.1 dX9_round_74 rfl (lv_at hl 4 rfl) ?_
        have hq := Option.some.inj hf
        subst hq
        exact r_iret cx wo hr hlk dX9_round_75
set_option maxHeartbeats 1000000 in
set_option maxRecDepth 10000 in
theorem mX9_round (l : Launch) {G : GG} {B : Nat}   {M : Mem} {q : Int32 × Mem} (hf : fX9_round  M = some q) : Met l yX9_round (wsG yX9_round cX9_round 5 (some .int)) (rmN (8)) (PcW Ph G B 205 M [.ref (B + 1)]) (QcI Ph G B 205 q.1 q.2) 0 0 (fr B) := by
  refine mk_Met (own := RX9) rfl rfl (Nat.le_of_ble_eq_true rfl) ?_
  intro p e s m below meth c ls cx hr hlk wo hl
  have hl : lv_has ls 5 [(0, .ref (B + 1))] := hl
  unfold fX9_round at hf
  refine lv_aload_n cx.1 cx.2.1 dX9_round_0 rfl (lv_at hl 0 rfl) ?_
  refine r_getR cx wo ad_1.1 ad_1.2.1 ad_1.2.2 fiX9_33 (fn_1_4 wo.2.2.2.1) (by decide) dX9_round_1 ?_
  refine lv_aload_n cx.1 cx.2.1 dX9_round_4 rfl (lv_at hl 0 rfl) ?_
  refine r_getR cx wo ad_1.1 ad_1.2.1 ad_1.2.2 fiX9_26 (fn_1_2 wo.2.2.2.1) (by decide) dX9_round_5 ?_
  obtain ⟨q1, e2, hf⟩ := bd_elim hf
  refine r_Vv (rest := []) cx wo (mX4_copyFrom l (by decide) (by decide) e2) cvX9_190 rfl ad_16.1 ad_16.2.1 ad_16.2.2 rfl rfl hl.1 rfl (Nat.le_of_ble_eq_true rfl) (hR_ok (by decide)) dX9_round_8 (fun H locs wo => ?_)
  refine lv_aload_n cx.1 cx.2.1 dX9_round_11 rfl (lv_at hl 0 rfl) ?_
  refine r_getR cx wo ad_1.1 ad_1.2.1 ad_1.2.2 fiX9_26 (fn_1_2 wo.2.2.2.1) (by decide) dX9_round_12 ?_
  obtain ⟨q3, e4, hf⟩ := bd_elim hf
  refine r_Vi (rest := []) cx wo (mX4_orderNumber l (by decide) e4) cvX9_285 rfl ad_6.1 ad_6.2.1 ad_6.2.2 rfl rfl hl.1 rfl (Nat.le_of_ble_eq_true rfl) (hR_ok (by decide)) dX9_round_15 (fun H locs wo => ?_)
  refine lv_istore_n (lv' := [(1, .int q3.1), (0, .ref (B + 1))]) cx.1 cx.2.1 dX9_round_18 rfl hl (by decide) rfl (fun ls hl => ?_)
  refine lv_iconst (v := 1) cx.1 cx.2.1 dX9_round_19 (by decide) ?_
  refine lv_istore_n (lv' := [(2, .int 1), (1, .int q3.1), (0, .ref (B + 1))]) cx.1 cx.2.1 dX9_round_20 rfl hl (by decide) rfl (fun ls hl => ?_)
  refine lv_aload_n cx.1 cx.2.1 dX9_round_21 rfl (lv_at hl 2 rfl) ?_
  refine r_getR cx wo ad_1.1 ad_1.2.1 ad_1.2.2 fiX9_89 (fn_1_15 wo.2.2.2.1) (by decide) dX9_round_22 ?_
  refine lv_iconst (v := 0) cx.1 cx.2.1 dX9_round_25 (by decide) ?_
  refine lv_iload_n cx.1 cx.2.1 dX9_round_26 rfl (lv_at hl 1 rfl) ?_
  obtain ⟨g5, hf⟩ := gd_elim hf
  obtain ⟨M6, e7, hf⟩ := lt_elim hf
  refine r_iast cx wo ad_144.1 ad_144.2.1 ad_144.2.2 (by rw [ln_144]; exact g5) dX9_round_27 (fun H locs wo => ?_)
  rw [← e7] at wo
  refine lv_iconst (v := 1) cx.1 cx.2.1 dX9_round_28 (by decide) ?_
  refine lv_istore_n (lv' := [(3, .int 1), (2, .int 1), (1, .int q3.1), (0, .ref (B + 1))]) cx.1 cx.2.1 dX9_round_29 rfl hl (by decide) rfl (fun ls hl => ?_)
  exact wX9_round_30 cx hr hlk _ _ _ _ _ _ hf _ _ _ wo (lv_sub hl [3, 2, 1, 0] rfl)
set_option maxHeartbeats 1000000 in
set_option maxRecDepth 10000 in
theorem mX9_sets (l : Launch) {G : GG} {B : Nat}   {M : Mem} {q : Int32 × Mem} (hf : fX9_sets  M = some q) : Met l yX9_sets (wsG yX9_sets cX9_sets 1 (some .int)) (rmN (7)) (PcW Ph G B 205 M [.ref (B + 1)]) (QcI Ph G B 205 q.1 q.2) 0 0 (fr B) := by
  refine mk_Met (own := RX9) rfl rfl (Nat.le_of_ble_eq_true rfl) ?_
  intro p e s m below meth c ls cx hr hlk wo hl
  have hl : lv_has ls 1 [(0, .ref (B + 1))] := hl
  unfold fX9_sets at hf
  refine lv_aload_n cx.1 cx.2.1 dX9_sets_0 rfl (lv_at hl 0 rfl) ?_
  refine r_getR cx wo ad_1.1 ad_1.2.1 ad_1.2.2 fiX9_71 (fn_1_11 wo.2.2.2.1) (by decide) dX9_sets_1 ?_
  refine lv_aload_n cx.1 cx.2.1 dX9_sets_4 rfl (lv_at hl 0 rfl) ?_
  refine r_getR cx wo ad_1.1 ad_1.2.1 ad_1.2.2 fiX9_26 (fn_1_2 wo.2.2.2.1) (by decide) dX9_sets_5 ?_
  refine r_getI cx wo ad_6.1 ad_6.2.1 ad_6.2.2 fiX9_282 dX9_sets_8 ?_
  obtain ⟨q1, e2, hf⟩ := bd_elim hf
  refine r_Vv (rest := []) cx wo (mX1_prepare l e2) cvX9_292 rfl ad_115.1 ad_115.2.1 ad_115.2.2 rfl rfl hl.1 rfl (Nat.le_of_ble_eq_true rfl) (hR_ok (by decide)) dX9_sets_11 (fun H locs wo => ?_)
  refine lv_aload_n cx.1 cx.2.1 dX9_sets_14 rfl (lv_at hl 0 rfl) ?_
  refine r_getR cx wo ad_1.1 ad_1.2.1 ad_1.2.2 fiX9_19 (fn_1_1 wo.2.2.2.1) (by decide) dX9_sets_15 ?_
  refine lv_aload_n cx.1 cx.2.1 dX9_sets_18 rfl (lv_at hl 0 rfl) ?_
  refine r_getR cx wo ad_1.1 ad_1.2.1 ad_1.2.2 fiX9_71 (fn_1_11 wo.2.2.2.1) (by decide) dX9_sets_19 ?_
  refine r_getI cx wo ad_115.1 ad_115.2.1 ad_115.2.2 fiX9_295 dX9_sets_22 ?_
  refine lv_i2l (v := (q1.1 115 3).toInt64) cx.1 cx.2.1 dX9_sets_25 rfl ?_
  refine lv_aload_n cx.1 cx.2.1 dX9_sets_26 rfl (lv_at hl 0 rfl) ?_
  refine r_getR cx wo ad_1.1 ad_1.2.1 ad_1.2.2 fiX9_71 (fn_1_11 wo.2.2.2.1) (by decide) dX9_sets_27 ?_
  refine r_getI cx wo ad_115.1 ad_115.2.1 ad_115.2.2 fiX9_298 dX9_sets_30 ?_
  refine lv_i2l (v := (q1.1 115 4).toInt64) cx.1 cx.2.1 dX9_sets_33 rfl ?_
  obtain ⟨q3, e4, hf⟩ := bd_elim hf
  refine r_Vv (rest := []) cx wo (mX5_tellBoth l e4) cvX9_227 rfl ad_4.1 ad_4.2.1 ad_4.2.2 rfl rfl hl.1 rfl (Nat.le_of_ble_eq_true rfl) (hR_ok (by decide)) dX9_sets_34 (fun H locs wo => ?_)
  refine lv_aload_n cx.1 cx.2.1 dX9_sets_37 rfl (lv_at hl 0 rfl) ?_
  refine r_getR cx wo ad_1.1 ad_1.2.1 ad_1.2.2 fiX9_71 (fn_1_11 wo.2.2.2.1) (by decide) dX9_sets_38 ?_
  refine r_getI cx wo ad_115.1 ad_115.2.1 ad_115.2.2 fiX9_301 dX9_sets_41 ?_
  have hq := Option.some.inj hf
  subst hq
  exact r_iret cx wo hr hlk dX9_sets_44
set_option maxHeartbeats 1000000 in
set_option maxRecDepth 10000 in
theorem mX9_orders (l : Launch) {G : GG} {B : Nat} {x1 : Int32}  {M : Mem} {q : Int32 × Mem} (hf : fX9_orders x1 M = some q) : Met l yX9_orders (wsG yX9_orders cX9_orders 3 (some .int)) (rmN (7)) (PcW Ph G B 205 M [.ref (B + 1), .int x1]) (QcI Ph G B 205 q.1 q.2) 0 0 (fr B) := by
  refine mk_Met (own := RX9) rfl rfl (Nat.le_of_ble_eq_true rfl) ?_
  intro p e s m below meth c ls cx hr hlk wo hl
  have hl : lv_has ls 3 [(0, .ref (B + 1)), (1, .int x1)] := hl
  unfold fX9_orders at hf
  refine lv_iload_n cx.1 cx.2.1 dX9_orders_0 rfl (lv_at hl 1 rfl) ?_
  refine lv_if_lt (tgt := 10) cx.1 cx.2.1 dX9_orders_1 (by decide) (fun c1 => ?_) (fun c1 => ?_)
  · rw [if_pos c1] at hf
    refine lv_iconst (v := (-1)) cx.1 cx.2.1 dX9_orders_10 (by decide) ?_
    have hq := Option.some.inj hf
    subst hq
    exact r_iret cx wo hr hlk dX9_orders_11
  · rw [if_neg c1] at hf
    refine lv_iload_n cx.1 cx.2.1 dX9_orders_4 rfl (lv_at hl 1 rfl) ?_
    refine lv_bipush (v := 6) cx.1 cx.2.1 dX9_orders_5 (by decide) ?_
    refine lv_icmp_le (tgt := 12) cx.1 cx.2.1 dX9_orders_7 (by decide) (fun c2 => ?_) (fun c2 => ?_)
    · rw [if_pos c2] at hf
      refine lv_aload_n cx.1 cx.2.1 dX9_orders_12 rfl (lv_at hl 0 rfl) ?_
      refine r_getR cx wo ad_1.1 ad_1.2.1 ad_1.2.2 fiX9_71 (fn_1_11 wo.2.2.2.1) (by decide) dX9_orders_13 ?_
      refine lv_aload_n cx.1 cx.2.1 dX9_orders_16 rfl (lv_at hl 0 rfl) ?_
      refine r_getR cx wo ad_1.1 ad_1.2.1 ad_1.2.2 fiX9_26 (fn_1_2 wo.2.2.2.1) (by decide) dX9_orders_17 ?_
      refine r_getI cx wo ad_6.1 ad_6.2.1 ad_6.2.2 fiX9_282 dX9_orders_20 ?_
      obtain ⟨q3, e4, hf⟩ := bd_elim hf
      refine r_Vv (rest := []) cx wo (mX1_prepare l e4) cvX9_292 rfl ad_115.1 ad_115.2.1 ad_115.2.2 rfl rfl hl.1 rfl (Nat.le_of_ble_eq_true rfl) (hR_ok (by decide)) dX9_orders_23 (fun H locs wo => ?_)
      refine lv_aload_n cx.1 cx.2.1 dX9_orders_26 rfl (lv_at hl 0 rfl) ?_
      refine r_getR cx wo ad_1.1 ad_1.2.1 ad_1.2.2 fiX9_71 (fn_1_11 wo.2.2.2.1) (by decide) dX9_orders_27 ?_
      refine lv_iload_n cx.1 cx.2.1 dX9_orders_30 rfl (lv_at hl 1 rfl) ?_
      obtain ⟨q5, e6, hf⟩ := bd_elim hf
      refine r_Vi (rest := []) cx wo (mX1_ordersWithin l e6) cvX9_304 rfl ad_115.1 ad_115.2.1 ad_115.2.2 rfl rfl hl.1 rfl (Nat.le_of_ble_eq_true rfl) (hR_ok (by decide)) dX9_orders_31 (fun H locs wo => ?_)
      refine lv_istore_n (lv' := [(2, .int q5.1), (0, .ref (B + 1)), (1, .int x1)]) cx.1 cx.2.1 dX9_orders_34 rfl hl (by decide) rfl (fun ls hl => ?_)
      refine lv_aload_n cx.1 cx.2.1 dX9_orders_35 rfl (lv_at hl 1 rfl) ?_
      refine r_getR cx wo ad_1.1 ad_1.2.1 ad_1.2.2 fiX9_19 (fn_1_1 wo.2.2.2.1) (by decide) dX9_orders_36 ?_
      refine lv_iload_n cx.1 cx.2.1 dX9_orders_39 rfl (lv_at hl 0 rfl) ?_
      refine lv_aload_n cx.1 cx.2.1 dX9_orders_40 rfl (lv_at hl 1 rfl) ?_
      refine r_getR cx wo ad_1.1 ad_1.2.1 ad_1.2.2 fiX9_71 (fn_1_11 wo.2.2.2.1) (by decide) dX9_orders_41 ?_
      refine lv_iload_n cx.1 cx.2.1 dX9_orders_44 rfl (lv_at hl 2 rfl) ?_
      refine lv_iconst (v := 1) cx.1 cx.2.1 dX9_orders_45 (by decide) ?_
      refine lv_isub cx.1 cx.2.1 dX9_orders_46 ?_
      obtain ⟨q7, e8, hf⟩ := bd_elim hf
      refine r_Vi (rest := [.int q5.1, .ref (B + 4)]) cx wo (mX1_ordersWithin l e8) cvX9_304 rfl ad_115.1 ad_115.2.1 ad_115.2.2 rfl rfl hl.1 rfl (Nat.le_of_ble_eq_true rfl) (hR_ok (by decide)) dX9_orders_47 (fun H locs wo => ?_)
      refine lv_isub cx.1 cx.2.1 dX9_orders_50 ?_
      refine lv_i2l (v := (q5.1 - q7.1).toInt64) cx.1 cx.2.1 dX9_orders_51 rfl ?_
      obtain ⟨q9, e10, hf⟩ := bd_elim hf
      refine r_Vv (rest := []) cx wo (mX5_tell l e10) cvX9_186 rfl ad_4.1 ad_4.2.1 ad_4.2.2 rfl rfl hl.1 rfl (Nat.le_of_ble_eq_true rfl) (hR_ok (by decide)) dX9_orders_52 (fun H locs wo => ?_)
      refine lv_iload_n cx.1 cx.2.1 dX9_orders_55 rfl (lv_at hl 0 rfl) ?_
      have hq := Option.some.inj hf
      subst hq
      exact r_iret cx wo hr hlk dX9_orders_56
    · rw [if_neg c2] at hf
      refine lv_iconst (v := (-1)) cx.1 cx.2.1 dX9_orders_10 (by decide) ?_
      have hq := Option.some.inj hf
      subst hq
      exact r_iret cx wo hr hlk dX9_orders_11
set_option maxHeartbeats 1000000 in
set_option maxRecDepth 10000 in
theorem wX9_best_104 (cx : Cx p s m args c cX9_best 6 RX9 G) (hr : meth.sig.returnType = (some .int)) (hlk : meth.locks = false) : ∀ (n : Nat) (x3 : Int32) (x4 : Int32) (x5 : Int32)  (M : Mem) (q : Int32 × Mem), fX9_best_104 n x3 x4 x5 M = some q → ∀ (H : Heap) (locs : List Loc) (ls : Array Slot), Wo Ph G B 205 s M H locs → lv_has ls 6 [(0, .ref (B + 1)), (3, .int x3), (4, .int x4), (5, .int x5)] → W p l e (rmN (7)) s m args below meth c H locs 0 0 (MQ below (QcI Ph G B 205 q.1 q.2) args s 0 0 (fr B)) (F0 m 104 ls []) := by
  intro n
  induction n with
  | zero =>
    intro x3 x4 x5 M q hf H locs ls wo hl
    have hf : none = some q := hf
    cases hf
  | succ n ih =>
    intro x3 x4 x5 M q hf H locs ls wo hl
    rw [fX9_best_104] at hf
    refine lv_iload cx.1 cx.2.1 dX9_best_104 (lv_at hl 3 rfl) ?_
    refine lv_aload_n cx.1 cx.2.1 dX9_best_106 rfl (lv_at hl 0 rfl) ?_
    refine r_getR cx wo ad_1.1 ad_1.2.1 ad_1.2.2 fiX9_26 (fn_1_2 wo.2.2.2.1) (by decide) dX9_best_107 ?_
    refine r_getI cx wo ad_6.1 ad_6.2.1 ad_6.2.2 fiX9_282 dX9_best_110 ?_
    refine lv_icmp_ge (tgt := 144) cx.1 cx.2.1 dX9_best_113 (by decide) (fun c20 => ?_) (fun c20 => ?_)
    · rw [if_pos c20] at hf
      refine lv_aload_n cx.1 cx.2.1 dX9_best_144 rfl (lv_at hl 0 rfl) ?_
      refine r_getR cx wo ad_1.1 ad_1.2.1 ad_1.2.2 fiX9_19 (fn_1_1 wo.2.2.2.1) (by decide) dX9_best_145 ?_
      refine lv_iload cx.1 cx.2.1 dX9_best_148 (lv_at hl 2 rfl) ?_
      refine lv_i2l (v := x4.toInt64) cx.1 cx.2.1 dX9_best_150 rfl ?_
      refine lv_aload_n cx.1 cx.2.1 dX9_best_151 rfl (lv_at hl 0 rfl) ?_
      refine r_getR cx wo ad_1.1 ad_1.2.1 ad_1.2.2 fiX9_71 (fn_1_11 wo.2.2.2.1) (by decide) dX9_best_152 ?_
      refine r_getR cx wo ad_115.1 ad_115.2.1 ad_115.2.2 fiX9_310 (fn_115_7 wo.2.2.2.1) (by decide) dX9_best_155 ?_
      refine lv_iload_n cx.1 cx.2.1 dX9_best_158 rfl (lv_at hl 1 rfl) ?_
      obtain ⟨g21, hf⟩ := gd_elim hf
      refine r_iald cx wo ad_138.1 ad_138.2.1 ad_138.2.2 (by rw [ln_138]; exact g21) dX9_best_159 ?_
      refine lv_i2l (v := (M.1 138 (ix x3)).toInt64) cx.1 cx.2.1 dX9_best_160 rfl ?_
      obtain ⟨q22, e23, hf⟩ := bd_elim hf
      refine r_Vv (rest := []) cx wo (mX5_tellBoth l e23) cvX9_227 rfl ad_4.1 ad_4.2.1 ad_4.2.2 rfl rfl hl.1 rfl (Nat.le_of_ble_eq_true rfl) (hR_ok (by decide)) dX9_best_161 (fun H locs wo => ?_)
      refine lv_iload_n cx.1 cx.2.1 dX9_best_164 rfl (lv_at hl 1 rfl) ?_
      have hq := Option.some.inj hf
      subst hq
      exact r_iret cx wo hr hlk dX9_best_165
    · rw [if_neg c20] at hf
      refine lv_aload_n cx.1 cx.2.1 dX9_best_116 rfl (lv_at hl 0 rfl) ?_
      refine r_getR cx wo ad_1.1 ad_1.2.1 ad_1.2.2 fiX9_71 (fn_1_11 wo.2.2.2.1) (by decide) dX9_best_117 ?_
      refine r_getR cx wo ad_115.1 ad_115.2.1 ad_115.2.2 fiX9_310 (fn_115_7 wo.2.2.2.1) (by decide) dX9_best_120 ?_
      refine lv_iload cx.1 cx.2.1 dX9_best_123 (lv_at hl 3 rfl) ?_
      obtain ⟨g24, hf⟩ := gd_elim hf
      refine r_iald cx wo ad_138.1 ad_138.2.1 ad_138.2.2 (by rw [ln_138]; exact g24) dX9_best_125 ?_
      refine lv_if_le (tgt := 134) cx.1 cx.2.1 dX9_best_126 (by decide) (fun c25 => ?_) (fun c25 => ?_)
      · rw [if_pos c25] at hf
        refine lv_iload cx.1 cx.2.1 dX9_best_134 (lv_at hl 2 rfl) ?_
        refine lv_istore (lv' := [(4, .int x4), (0, .ref (B + 1)), (3, .int x3), (5, .int x5)]) cx.1 cx.2.1 dX9_best_136 hl (by decide) rfl (fun ls hl => ?_)
        obtain ⟨y26, e27, hf⟩ := lt_elim hf
        refine lv_iinc (v := y26) (lv' := [(5, .int y26), (4, .int x4), (0, .ref (B + 1)), (3, .int x3)]) cx.1 cx.2.1 dX9_best_138 hl (k := 3) rfl (by rw [e27]; rfl) (by decide) rfl (fun ls hl => ?_)
        refine lv_goto (tgt := 104) cx.1 cx.2.1 dX9_best_141 (by decide) ?_
        exact ih _ _ _ _ _ hf _ _ _ wo (lv_sub hl [2, 3, 1, 0] rfl)
      · rw [if_neg c25] at hf
        refine lv_iload cx.1 cx.2.1 dX9_best_129 (lv_at hl 3 rfl) ?_
        refine lv_goto (tgt := 136) cx.1 cx.2.1 dX9_best_131 (by decide) ?_
        refine lv_istore (lv' := [(4, .int x5), (0, .ref (B + 1)), (3, .int x3), (5, .int x5)]) cx.1 cx.2.1 dX9_best_136 hl (by decide) rfl (fun ls hl => ?_)
        obtain ⟨y28, e29, hf⟩ := lt_elim hf
        refine lv_iinc (v := y28) (lv' := [(5, .int y28), (4, .int x5), (0, .ref (B + 1)), (3, .int x3)]) cx.1 cx.2.1 dX9_best_138 hl (k := 3) rfl (by rw [e29]; rfl) (by decide) rfl (fun ls hl => ?_)
        refine lv_goto (tgt := 104) cx.1 cx.2.1 dX9_best_141 (by decide) ?_
        exact ih _ _ _ _ _ hf _ _ _ wo (lv_sub hl [2, 3, 1, 0] rfl)
set_option maxHeartbeats 1000000 in
set_option maxRecDepth 10000 in
theorem wX9_best_70 (cx : Cx p s m args c cX9_best 6 RX9 G) (hr : meth.sig.returnType = (some .int)) (hlk : meth.locks = false) : ∀ (n : Nat) (x3 : Int32) (x4 : Int32) (x5 : Int32)  (M : Mem) (q : Int32 × Mem), fX9_best_70 n x3 x4 x5 M = some q → ∀ (H : Heap) (locs : List Loc) (ls : Array Slot), Wo Ph G B 205 s M H locs → lv_has ls 6 [(0, .ref (B + 1)), (3, .int x3), (4, .int x4), (5, .int x5)] → W p l e (rmN (7)) s m args below meth c H locs 0 0 (MQ below (QcI Ph G B 205 q.1 q.2) args s 0 0 (fr B)) (F0 m 70 ls []) := by
  intro n
  induction n with
  | zero =>
    intro x3 x4 x5 M q hf H locs ls wo hl
    have hf : none = some q := hf
    cases hf
  | succ n ih =>
    intro x3 x4 x5 M q hf H locs ls wo hl
    rw [fX9_best_70] at hf
    refine lv_iload cx.1 cx.2.1 dX9_best_70 (lv_at hl 3 rfl) ?_
    refine lv_if_lt (tgt := 101) cx.1 cx.2.1 dX9_best_72 (by decide) (fun c13 => ?_) (fun c13 => ?_)
    · rw [if_pos c13] at hf
      refine lv_iconst (v := 0) cx.1 cx.2.1 dX9_best_101 (by decide) ?_
      refine lv_istore (lv' := [(5, .int 0), (0, .ref (B + 1)), (3, .int x3), (4, .int x4)]) cx.1 cx.2.1 dX9_best_102 hl (by decide) rfl (fun ls hl => ?_)
      exact wX9_best_104 cx hr hlk _ _ _ _ _ _ hf _ _ _ wo (lv_sub hl [1, 2, 3, 0] rfl)
    · rw [if_neg c13] at hf
      refine lv_aload_n cx.1 cx.2.1 dX9_best_75 rfl (lv_at hl 0 rfl) ?_
      refine r_getR cx wo ad_1.1 ad_1.2.1 ad_1.2.2 fiX9_71 (fn_1_11 wo.2.2.2.1) (by decide) dX9_best_76 ?_
      refine r_getR cx wo ad_115.1 ad_115.2.1 ad_115.2.2 fiX9_310 (fn_115_7 wo.2.2.2.1) (by decide) dX9_best_79 ?_
      refine lv_iload cx.1 cx.2.1 dX9_best_82 (lv_at hl 3 rfl) ?_
      obtain ⟨g14, hf⟩ := gd_elim hf
      refine r_iald cx wo ad_138.1 ad_138.2.1 ad_138.2.2 (by rw [ln_138]; exact g14) dX9_best_84 ?_
      refine lv_if_le (tgt := 93) cx.1 cx.2.1 dX9_best_85 (by decide) (fun c15 => ?_) (fun c15 => ?_)
      · rw [if_pos c15] at hf
        refine lv_iload_n cx.1 cx.2.1 dX9_best_93 rfl (lv_at hl 1 rfl) ?_
        refine lv_istore_n (lv' := [(3, .int x3), (0, .ref (B + 1)), (4, .int x4), (5, .int x5)]) cx.1 cx.2.1 dX9_best_94 rfl hl (by decide) rfl (fun ls hl => ?_)
        obtain ⟨y16, e17, hf⟩ := lt_elim hf
        refine lv_iinc (v := y16) (lv' := [(5, .int y16), (3, .int x3), (0, .ref (B + 1)), (4, .int x4)]) cx.1 cx.2.1 dX9_best_95 hl (k := 3) rfl (by rw [e17]; rfl) (by decide) rfl (fun ls hl => ?_)
        refine lv_goto (tgt := 70) cx.1 cx.2.1 dX9_best_98 (by decide) ?_
        exact ih _ _ _ _ _ hf _ _ _ wo (lv_sub hl [2, 1, 3, 0] rfl)
      · rw [if_neg c15] at hf
        refine lv_iload cx.1 cx.2.1 dX9_best_88 (lv_at hl 3 rfl) ?_
        refine lv_goto (tgt := 94) cx.1 cx.2.1 dX9_best_90 (by decide) ?_
        refine lv_istore_n (lv' := [(3, .int x5), (0, .ref (B + 1)), (4, .int x4), (5, .int x5)]) cx.1 cx.2.1 dX9_best_94 rfl hl (by decide) rfl (fun ls hl => ?_)
        obtain ⟨y18, e19, hf⟩ := lt_elim hf
        refine lv_iinc (v := y18) (lv' := [(5, .int y18), (3, .int x5), (0, .ref (B + 1)), (4, .int x4)]) cx.1 cx.2.1 dX9_best_95 hl (k := 3) rfl (by rw [e19]; rfl) (by decide) rfl (fun ls hl => ?_)
        refine lv_goto (tgt := 70) cx.1 cx.2.1 dX9_best_98 (by decide) ?_
        exact ih _ _ _ _ _ hf _ _ _ wo (lv_sub hl [2, 1, 3, 0] rfl)
set_option maxHeartbeats 1000000 in
set_option maxRecDepth 10000 in
theorem mX9_best (l : Launch) {G : GG} {B : Nat} {x1 : Int32} {x2 : Int32}  {M : Mem} {q : Int32 × Mem} (hf : fX9_best x1 x2 M = some q) : Met l yX9_best (wsG yX9_best cX9_best 6 (some .int)) (rmN (7)) (PcW Ph G B 205 M [.ref (B + 1), .int x1, .int x2]) (QcI Ph G B 205 q.1 q.2) 0 0 (fr B) := by
  refine mk_Met (own := RX9) rfl rfl (Nat.le_of_ble_eq_true rfl) ?_
  intro p e s m below meth c ls cx hr hlk wo hl
  have hl : lv_has ls 6 [(0, .ref (B + 1)), (1, .int x1), (2, .int x2)] := hl
  unfold fX9_best at hf
  refine lv_aload_n cx.1 cx.2.1 dX9_best_0 rfl (lv_at hl 0 rfl) ?_
  refine r_getR cx wo ad_1.1 ad_1.2.1 ad_1.2.2 fiX9_26 (fn_1_2 wo.2.2.2.1) (by decide) dX9_best_1 ?_
  refine lv_iload_n cx.1 cx.2.1 dX9_best_4 rfl (lv_at hl 1 rfl) ?_
  obtain ⟨q1, e2, hf⟩ := bd_elim hf
  refine r_Vi (rest := []) cx wo (mX4_has l (by decide) e2) cvX9_134 rfl ad_6.1 ad_6.2.1 ad_6.2.2 rfl rfl hl.1 rfl (Nat.le_of_ble_eq_true rfl) (hR_ok (by decide)) dX9_best_5 (fun H locs wo => ?_)
  refine lv_if_eq (tgt := 21) cx.1 cx.2.1 dX9_best_8 (by decide) (fun c3 => ?_) (fun c3 => ?_)
  · rw [if_pos c3] at hf
    refine lv_iconst (v := (-1)) cx.1 cx.2.1 dX9_best_21 (by decide) ?_
    have hq := Option.some.inj hf
    subst hq
    exact r_iret cx wo hr hlk dX9_best_22
  · rw [if_neg c3] at hf
    refine lv_iload_n cx.1 cx.2.1 dX9_best_11 rfl (lv_at hl 2 rfl) ?_
    refine lv_if_lt (tgt := 21) cx.1 cx.2.1 dX9_best_12 (by decide) (fun c4 => ?_) (fun c4 => ?_)
    · rw [if_pos c4] at hf
      refine lv_iconst (v := (-1)) cx.1 cx.2.1 dX9_best_21 (by decide) ?_
      have hq := Option.some.inj hf
      subst hq
      exact r_iret cx wo hr hlk dX9_best_22
    · rw [if_neg c4] at hf
      refine lv_iload_n cx.1 cx.2.1 dX9_best_15 rfl (lv_at hl 2 rfl) ?_
      refine lv_bipush (v := 6) cx.1 cx.2.1 dX9_best_16 (by decide) ?_
      refine lv_icmp_le (tgt := 23) cx.1 cx.2.1 dX9_best_18 (by decide) (fun c5 => ?_) (fun c5 => ?_)
      · rw [if_pos c5] at hf
        refine lv_aload_n cx.1 cx.2.1 dX9_best_23 rfl (lv_at hl 0 rfl) ?_
        refine r_getR cx wo ad_1.1 ad_1.2.1 ad_1.2.2 fiX9_71 (fn_1_11 wo.2.2.2.1) (by decide) dX9_best_24 ?_
        refine lv_aload_n cx.1 cx.2.1 dX9_best_27 rfl (lv_at hl 0 rfl) ?_
        refine r_getR cx wo ad_1.1 ad_1.2.1 ad_1.2.2 fiX9_26 (fn_1_2 wo.2.2.2.1) (by decide) dX9_best_28 ?_
        refine r_getI cx wo ad_6.1 ad_6.2.1 ad_6.2.2 fiX9_282 dX9_best_31 ?_
        obtain ⟨q6, e7, hf⟩ := bd_elim hf
        refine r_Vv (rest := []) cx wo (mX1_prepare l e7) cvX9_292 rfl ad_115.1 ad_115.2.1 ad_115.2.2 rfl rfl hl.1 rfl (Nat.le_of_ble_eq_true rfl) (hR_ok (by decide)) dX9_best_34 (fun H locs wo => ?_)
        refine lv_aload_n cx.1 cx.2.1 dX9_best_37 rfl (lv_at hl 0 rfl) ?_
        refine r_getR cx wo ad_1.1 ad_1.2.1 ad_1.2.2 fiX9_71 (fn_1_11 wo.2.2.2.1) (by decide) dX9_best_38 ?_
        refine lv_aload_n cx.1 cx.2.1 dX9_best_41 rfl (lv_at hl 0 rfl) ?_
        refine r_getR cx wo ad_1.1 ad_1.2.1 ad_1.2.2 fiX9_26 (fn_1_2 wo.2.2.2.1) (by decide) dX9_best_42 ?_
        refine r_getR cx wo ad_6.1 ad_6.2.1 ad_6.2.2 fiX9_151 (fn_6_3 wo.2.2.2.1) (by decide) dX9_best_45 ?_
        refine lv_iload_n cx.1 cx.2.1 dX9_best_48 rfl (lv_at hl 1 rfl) ?_
        obtain ⟨g8, hf⟩ := gd_elim hf
        refine r_iald cx wo ad_9.1 ad_9.2.1 ad_9.2.2 (by rw [ln_9]; exact g8) dX9_best_49 ?_
        refine lv_iload_n cx.1 cx.2.1 dX9_best_50 rfl (lv_at hl 2 rfl) ?_
        obtain ⟨q9, e10, hf⟩ := bd_elim hf
        refine r_Vv (rest := []) cx wo (mX1_countPlaces l e10) cvX9_307 rfl ad_115.1 ad_115.2.1 ad_115.2.2 rfl rfl hl.1 rfl (Nat.le_of_ble_eq_true rfl) (hR_ok (by decide)) dX9_best_51 (fun H locs wo => ?_)
        refine lv_iconst (v := 0) cx.1 cx.2.1 dX9_best_54 (by decide) ?_
        refine lv_istore_n (lv' := [(3, .int 0), (0, .ref (B + 1)), (1, .int x1), (2, .int x2)]) cx.1 cx.2.1 dX9_best_55 rfl hl (by decide) rfl (fun ls hl => ?_)
        refine lv_iconst (v := 0) cx.1 cx.2.1 dX9_best_56 (by decide) ?_
        refine lv_istore (lv' := [(4, .int 0), (3, .int 0), (0, .ref (B + 1)), (1, .int x1), (2, .int x2)]) cx.1 cx.2.1 dX9_best_57 hl (by decide) rfl (fun ls hl => ?_)
        refine lv_aload_n cx.1 cx.2.1 dX9_best_59 rfl (lv_at hl 2 rfl) ?_
        refine r_getR cx wo ad_1.1 ad_1.2.1 ad_1.2.2 fiX9_26 (fn_1_2 wo.2.2.2.1) (by decide) dX9_best_60 ?_
        refine r_getI cx wo ad_6.1 ad_6.2.1 ad_6.2.2 fiX9_282 dX9_best_63 ?_
        refine lv_iconst (v := 1) cx.1 cx.2.1 dX9_best_66 (by decide) ?_
        refine lv_isub cx.1 cx.2.1 dX9_best_67 ?_
        obtain ⟨y11, e12, hf⟩ := lt_elim hf
        refine r_topi e12 ?_
        refine lv_istore (lv' := [(5, .int y11), (4, .int 0), (3, .int 0), (0, .ref (B + 1)), (1, .int x1), (2, .int x2)]) cx.1 cx.2.1 dX9_best_68 hl (by decide) rfl (fun ls hl => ?_)
        exact wX9_best_70 cx hr hlk _ _ _ _ _ _ hf _ _ _ wo (lv_sub hl [3, 2, 1, 0] rfl)
      · rw [if_neg c5] at hf
        refine lv_iconst (v := (-1)) cx.1 cx.2.1 dX9_best_21 (by decide) ?_
        have hq := Option.some.inj hf
        subst hq
        exact r_iret cx wo hr hlk dX9_best_22
set_option maxHeartbeats 1000000 in
set_option maxRecDepth 10000 in
theorem wX9_readOrder_4 (cx : Cx p s m args c cX9_readOrder 5 RX9 G) (hr : meth.sig.returnType = (some .int)) (hlk : meth.locks = false) : ∀ (n : Nat) (x1 : Int32) (x2 : Int32) (x3 : Int32)  (M : Mem) (q : Int32 × Mem), fX9_readOrder_4 n x1 x2 x3 M = some q → ∀ (H : Heap) (locs : List Loc) (ls : Array Slot), Wo Ph G B 205 s M H locs → lv_has ls 5 [(0, .ref (B + 1)), (1, .int x1), (2, .int x2), (3, .int x3)] → W p l e (rmN (4)) s m args below meth c H locs 0 0 (MQ below (QcI Ph G B 205 q.1 q.2) args s 0 0 (fr B)) (F0 m 4 ls []) := by
  intro n
  induction n with
  | zero =>
    intro x1 x2 x3 M q hf H locs ls wo hl
    have hf : none = some q := hf
    cases hf
  | succ n ih =>
    intro x1 x2 x3 M q hf H locs ls wo hl
    rw [fX9_readOrder_4] at hf
    refine lv_iload_n cx.1 cx.2.1 dX9_readOrder_4 rfl (lv_at hl 3 rfl) ?_
    refine lv_aload_n cx.1 cx.2.1 dX9_readOrder_5 rfl (lv_at hl 0 rfl) ?_
    refine r_getR cx wo ad_1.1 ad_1.2.1 ad_1.2.2 fiX9_26 (fn_1_2 wo.2.2.2.1) (by decide) dX9_readOrder_6 ?_
    refine r_getI cx wo ad_6.1 ad_6.2.1 ad_6.2.2 fiX9_282 dX9_readOrder_9 ?_
    refine lv_icmp_ge (tgt := 73) cx.1 cx.2.1 dX9_readOrder_12 (by decide) (fun c1 => ?_) (fun c1 => ?_)
    · rw [if_pos c1] at hf
      refine lv_iconst (v := (-1)) cx.1 cx.2.1 dX9_readOrder_73 (by decide) ?_
      have hq := Option.some.inj hf
      subst hq
      exact r_iret cx wo hr hlk dX9_readOrder_74
    · rw [if_neg c1] at hf
      refine lv_aload_n cx.1 cx.2.1 dX9_readOrder_15 rfl (lv_at hl 0 rfl) ?_
      refine r_getR cx wo ad_1.1 ad_1.2.1 ad_1.2.2 fiX9_10 (fn_1_0 wo.2.2.2.1) (by decide) dX9_readOrder_16 ?_
      refine lv_iload_n cx.1 cx.2.1 dX9_readOrder_19 rfl (lv_at hl 1 rfl) ?_
      refine lv_iload_n cx.1 cx.2.1 dX9_readOrder_20 rfl (lv_at hl 3 rfl) ?_
      refine lv_iadd cx.1 cx.2.1 dX9_readOrder_21 ?_
      obtain ⟨q2, e3, hf⟩ := bd_elim hf
      refine r_Vi (rest := []) cx wo (mX8_digitAt l e3) cvX9_119 rfl ad_2.1 ad_2.2.1 ad_2.2.2 rfl rfl hl.1 rfl (Nat.le_of_ble_eq_true rfl) (hR_ok (by decide)) dX9_readOrder_22 (fun H locs wo => ?_)
      refine lv_istore (lv' := [(4, .int q2.1), (0, .ref (B + 1)), (1, .int x1), (2, .int x2), (3, .int x3)]) cx.1 cx.2.1 dX9_readOrder_25 hl (by decide) rfl (fun ls hl => ?_)
      refine lv_aload_n cx.1 cx.2.1 dX9_readOrder_27 rfl (lv_at hl 1 rfl) ?_
      refine r_getR cx wo ad_1.1 ad_1.2.1 ad_1.2.2 fiX9_26 (fn_1_2 wo.2.2.2.1) (by decide) dX9_readOrder_28 ?_
      refine lv_iload cx.1 cx.2.1 dX9_readOrder_31 (lv_at hl 0 rfl) ?_
      obtain ⟨q4, e5, hf⟩ := bd_elim hf
      refine r_Vi (rest := []) cx wo (mX4_has l (by decide) e5) cvX9_134 rfl ad_6.1 ad_6.2.1 ad_6.2.2 rfl rfl hl.1 rfl (Nat.le_of_ble_eq_true rfl) (hR_ok (by decide)) dX9_readOrder_33 (fun H locs wo => ?_)
      refine lv_if_eq (tgt := 48) cx.1 cx.2.1 dX9_readOrder_36 (by decide) (fun c6 => ?_) (fun c6 => ?_)
      · rw [if_pos c6] at hf
        refine lv_iload_n cx.1 cx.2.1 dX9_readOrder_48 rfl (lv_at hl 2 rfl) ?_
        refine lv_iload_n cx.1 cx.2.1 dX9_readOrder_49 rfl (lv_at hl 4 rfl) ?_
        refine lv_iadd cx.1 cx.2.1 dX9_readOrder_50 ?_
        have hq := Option.some.inj hf
        subst hq
        exact r_iret cx wo hr hlk dX9_readOrder_51
      · rw [if_neg c6] at hf
        refine lv_iload_n cx.1 cx.2.1 dX9_readOrder_39 rfl (lv_at hl 3 rfl) ?_
        refine lv_iload cx.1 cx.2.1 dX9_readOrder_40 (lv_at hl 0 rfl) ?_
        refine lv_ishr cx.1 cx.2.1 dX9_readOrder_42 ?_
        refine lv_iconst (v := 1) cx.1 cx.2.1 dX9_readOrder_43 (by decide) ?_
        refine lv_iand cx.1 cx.2.1 dX9_readOrder_44 ?_
        refine lv_if_eq (tgt := 52) cx.1 cx.2.1 dX9_readOrder_45 (by decide) (fun c7 => ?_) (fun c7 => ?_)
        · rw [if_pos c7] at hf
          refine lv_iload_n cx.1 cx.2.1 dX9_readOrder_52 rfl (lv_at hl 3 rfl) ?_
          refine lv_iconst (v := 1) cx.1 cx.2.1 dX9_readOrder_53 (by decide) ?_
          refine lv_iload cx.1 cx.2.1 dX9_readOrder_54 (lv_at hl 0 rfl) ?_
          refine lv_ishl cx.1 cx.2.1 dX9_readOrder_56 ?_
          refine lv_ior cx.1 cx.2.1 dX9_readOrder_57 ?_
          obtain ⟨y8, e9, hf⟩ := lt_elim hf
          refine r_topi e9 ?_
          refine lv_istore_n (lv' := [(2, .int y8), (4, .int q2.1), (0, .ref (B + 1)), (1, .int x1), (3, .int x3)]) cx.1 cx.2.1 dX9_readOrder_58 rfl hl (by decide) rfl (fun ls hl => ?_)
          refine lv_aload_n cx.1 cx.2.1 dX9_readOrder_59 rfl (lv_at hl 2 rfl) ?_
          refine r_getR cx wo ad_1.1 ad_1.2.1 ad_1.2.2 fiX9_82 (fn_1_13 wo.2.2.2.1) (by decide) dX9_readOrder_60 ?_
          refine lv_iload_n cx.1 cx.2.1 dX9_readOrder_63 rfl (lv_at hl 4 rfl) ?_
          refine lv_iload cx.1 cx.2.1 dX9_readOrder_64 (lv_at hl 1 rfl) ?_
          obtain ⟨g10, hf⟩ := gd_elim hf
          obtain ⟨M11, e12, hf⟩ := lt_elim hf
          refine r_iast cx wo ad_142.1 ad_142.2.1 ad_142.2.2 (by rw [ln_142]; exact g10) dX9_readOrder_66 (fun H locs wo => ?_)
          rw [← e12] at wo
          obtain ⟨y13, e14, hf⟩ := lt_elim hf
          refine lv_iinc (v := y13) (lv' := [(3, .int y13), (2, .int y8), (4, .int q2.1), (0, .ref (B + 1)), (1, .int x1)]) cx.1 cx.2.1 dX9_readOrder_67 hl (k := 4) rfl (by rw [e14]; rfl) (by decide) rfl (fun ls hl => ?_)
          refine lv_goto (tgt := 4) cx.1 cx.2.1 dX9_readOrder_70 (by decide) ?_
          exact ih _ _ _ _ _ hf _ _ _ wo (lv_sub hl [3, 4, 1, 0] rfl)
        · rw [if_neg c7] at hf
          refine lv_iload_n cx.1 cx.2.1 dX9_readOrder_48 rfl (lv_at hl 2 rfl) ?_
          refine lv_iload_n cx.1 cx.2.1 dX9_readOrder_49 rfl (lv_at hl 4 rfl) ?_
          refine lv_iadd cx.1 cx.2.1 dX9_readOrder_50 ?_
          have hq := Option.some.inj hf
          subst hq
          exact r_iret cx wo hr hlk dX9_readOrder_51
set_option maxHeartbeats 1000000 in
set_option maxRecDepth 10000 in
theorem mX9_readOrder (l : Launch) {G : GG} {B : Nat} {x1 : Int32}  {M : Mem} {q : Int32 × Mem} (hf : fX9_readOrder x1 M = some q) : Met l yX9_readOrder (wsG yX9_readOrder cX9_readOrder 5 (some .int)) (rmN (4)) (PcW Ph G B 205 M [.ref (B + 1), .int x1]) (QcI Ph G B 205 q.1 q.2) 0 0 (fr B) := by
  refine mk_Met (own := RX9) rfl rfl (Nat.le_of_ble_eq_true rfl) ?_
  intro p e s m below meth c ls cx hr hlk wo hl
  have hl : lv_has ls 5 [(0, .ref (B + 1)), (1, .int x1)] := hl
  unfold fX9_readOrder at hf
  refine lv_iconst (v := 0) cx.1 cx.2.1 dX9_readOrder_0 (by decide) ?_
  refine lv_istore_n (lv' := [(2, .int 0), (0, .ref (B + 1)), (1, .int x1)]) cx.1 cx.2.1 dX9_readOrder_1 rfl hl (by decide) rfl (fun ls hl => ?_)
  refine lv_iconst (v := 0) cx.1 cx.2.1 dX9_readOrder_2 (by decide) ?_
  refine lv_istore_n (lv' := [(3, .int 0), (2, .int 0), (0, .ref (B + 1)), (1, .int x1)]) cx.1 cx.2.1 dX9_readOrder_3 rfl hl (by decide) rfl (fun ls hl => ?_)
  exact wX9_readOrder_4 cx hr hlk _ _ _ _ _ _ hf _ _ _ wo (lv_sub hl [2, 3, 1, 0] rfl)
set_option maxHeartbeats 1000000 in
set_option maxRecDepth 10000 in
theorem mX9_orderFault (l : Launch) {G : GG} {B : Nat}   {M : Mem} {q : Int32 × Mem} (hf : fX9_orderFault  M = some q) : Met l yX9_orderFault (wsG yX9_orderFault cX9_orderFault 2 (some .int)) (rmN (5)) (PcW Ph G B 205 M [.ref (B + 1)]) (QcI Ph G B 205 q.1 q.2) 0 0 (fr B) := by
  refine mk_Met (own := RX9) rfl rfl (Nat.le_of_ble_eq_true rfl) ?_
  intro p e s m below meth c ls cx hr hlk wo hl
  have hl : lv_has ls 2 [(0, .ref (B + 1))] := hl
  unfold fX9_orderFault at hf
  refine lv_aload_n cx.1 cx.2.1 dX9_orderFault_0 rfl (lv_at hl 0 rfl) ?_
  refine lv_iconst (v := 0) cx.1 cx.2.1 dX9_orderFault_1 (by decide) ?_
  obtain ⟨q1, e2, hf⟩ := bd_elim hf
  refine r_Vi (rest := []) cx wo (mX9_readOrder l e2) cvX9_329 rfl ad_1.1 ad_1.2.1 ad_1.2.2 rfl rfl hl.1 rfl (Nat.le_of_ble_eq_true rfl) (hR_ok (by decide)) dX9_orderFault_2 (fun H locs wo => ?_)
  refine lv_istore_n (lv' := [(1, .int q1.1), (0, .ref (B + 1))]) cx.1 cx.2.1 dX9_orderFault_5 rfl hl (by decide) rfl (fun ls hl => ?_)
  refine lv_iload_n cx.1 cx.2.1 dX9_orderFault_6 rfl (lv_at hl 0 rfl) ?_
  refine lv_if_ge (tgt := 35) cx.1 cx.2.1 dX9_orderFault_7 (by decide) (fun c3 => ?_) (fun c3 => ?_)
  · rw [if_pos c3] at hf
    refine lv_aload_n cx.1 cx.2.1 dX9_orderFault_35 rfl (lv_at hl 1 rfl) ?_
    refine r_getR cx wo ad_1.1 ad_1.2.1 ad_1.2.2 fiX9_10 (fn_1_0 wo.2.2.2.1) (by decide) dX9_orderFault_36 ?_
    refine lv_iconst (v := 0) cx.1 cx.2.1 dX9_orderFault_39 (by decide) ?_
    obtain ⟨M4, e5, hf⟩ := lt_elim hf
    refine r_putI cx wo ad_2.1 ad_2.2.1 ad_2.2.2 fpX9_107 dX9_orderFault_40 (fun H locs wo => ?_)
    rw [← e5] at wo
    refine lv_iload_n cx.1 cx.2.1 dX9_orderFault_43 rfl (lv_at hl 0 rfl) ?_
    have hq := Option.some.inj hf
    subst hq
    exact r_iret cx wo hr hlk dX9_orderFault_44
  · rw [if_neg c3] at hf
    refine lv_aload_n cx.1 cx.2.1 dX9_orderFault_10 rfl (lv_at hl 1 rfl) ?_
    refine r_getR cx wo ad_1.1 ad_1.2.1 ad_1.2.2 fiX9_10 (fn_1_0 wo.2.2.2.1) (by decide) dX9_orderFault_11 ?_
    refine r_getI cx wo ad_2.1 ad_2.2.1 ad_2.2.2 fiX9_107 dX9_orderFault_14 ?_
    refine lv_aload_n cx.1 cx.2.1 dX9_orderFault_17 rfl (lv_at hl 1 rfl) ?_
    refine r_getR cx wo ad_1.1 ad_1.2.1 ad_1.2.2 fiX9_26 (fn_1_2 wo.2.2.2.1) (by decide) dX9_orderFault_18 ?_
    refine r_getI cx wo ad_6.1 ad_6.2.1 ad_6.2.2 fiX9_282 dX9_orderFault_21 ?_
    refine lv_icmp_le (tgt := 35) cx.1 cx.2.1 dX9_orderFault_24 (by decide) (fun c6 => ?_) (fun c6 => ?_)
    · rw [if_pos c6] at hf
      refine lv_aload_n cx.1 cx.2.1 dX9_orderFault_35 rfl (lv_at hl 1 rfl) ?_
      refine r_getR cx wo ad_1.1 ad_1.2.1 ad_1.2.2 fiX9_10 (fn_1_0 wo.2.2.2.1) (by decide) dX9_orderFault_36 ?_
      refine lv_iconst (v := 0) cx.1 cx.2.1 dX9_orderFault_39 (by decide) ?_
      obtain ⟨M7, e8, hf⟩ := lt_elim hf
      refine r_putI cx wo ad_2.1 ad_2.2.1 ad_2.2.2 fpX9_107 dX9_orderFault_40 (fun H locs wo => ?_)
      rw [← e8] at wo
      refine lv_iload_n cx.1 cx.2.1 dX9_orderFault_43 rfl (lv_at hl 0 rfl) ?_
      have hq := Option.some.inj hf
      subst hq
      exact r_iret cx wo hr hlk dX9_orderFault_44
    · rw [if_neg c6] at hf
      refine lv_aload_n cx.1 cx.2.1 dX9_orderFault_27 rfl (lv_at hl 1 rfl) ?_
      refine r_getR cx wo ad_1.1 ad_1.2.1 ad_1.2.2 fiX9_26 (fn_1_2 wo.2.2.2.1) (by decide) dX9_orderFault_28 ?_
      refine r_getI cx wo ad_6.1 ad_6.2.1 ad_6.2.2 fiX9_282 dX9_orderFault_31 ?_
      obtain ⟨y9, e10, hf⟩ := lt_elim hf
      refine r_topi e10 ?_
      refine lv_istore_n (lv' := [(1, .int y9), (0, .ref (B + 1))]) cx.1 cx.2.1 dX9_orderFault_34 rfl hl (by decide) rfl (fun ls hl => ?_)
      refine lv_aload_n cx.1 cx.2.1 dX9_orderFault_35 rfl (lv_at hl 1 rfl) ?_
      refine r_getR cx wo ad_1.1 ad_1.2.1 ad_1.2.2 fiX9_10 (fn_1_0 wo.2.2.2.1) (by decide) dX9_orderFault_36 ?_
      refine lv_iconst (v := 0) cx.1 cx.2.1 dX9_orderFault_39 (by decide) ?_
      obtain ⟨M11, e12, hf⟩ := lt_elim hf
      refine r_putI cx wo ad_2.1 ad_2.2.1 ad_2.2.2 fpX9_107 dX9_orderFault_40 (fun H locs wo => ?_)
      rw [← e12] at wo
      refine lv_iload_n cx.1 cx.2.1 dX9_orderFault_43 rfl (lv_at hl 0 rfl) ?_
      have hq := Option.some.inj hf
      subst hq
      exact r_iret cx wo hr hlk dX9_orderFault_44
set_option maxHeartbeats 1000000 in
set_option maxRecDepth 10000 in
theorem wX9_relate_2 (cx : Cx p s m args c cX9_relate 3 RX9 G) (hr : meth.sig.returnType = none) (hlk : meth.locks = false) : ∀ (n : Nat) (a1 : Nat) (x2 : Int32) (h1 : a1 ∈ rivers) (M : Mem) (q : Mem), fX9_relate_2 n a1 x2 M = some q → ∀ (H : Heap) (locs : List Loc) (ls : Array Slot), Wo Ph G B 205 s M H locs → lv_has ls 3 [(0, .ref (B + 1)), (1, .ref (B + a1)), (2, .int x2)] → W p l e (rmN (3)) s m args below meth c H locs 0 0 (MQ below (QcV Ph G B 205 q) args s 0 0 (fr B)) (F0 m 2 ls []) := by
  intro n
  induction n with
  | zero =>
    intro a1 x2 h1 M q hf H locs ls wo hl
    have hf : none = some q := hf
    cases hf
  | succ n ih =>
    intro a1 x2 h1 M q hf H locs ls wo hl
    rw [fX9_relate_2] at hf
    refine lv_iload_n cx.1 cx.2.1 dX9_relate_2 rfl (lv_at hl 2 rfl) ?_
    refine lv_aload_n cx.1 cx.2.1 dX9_relate_3 rfl (lv_at hl 1 rfl) ?_
    refine r_getI cx wo (riv_ok _ h1).1.1 (riv_ok _ h1).1.2.1 (riv_ok _ h1).1.2.2 fiX9_282 dX9_relate_4 ?_
    refine lv_icmp_ge (tgt := 50) cx.1 cx.2.1 dX9_relate_7 (by decide) (fun c1 => ?_) (fun c1 => ?_)
    · rw [if_pos c1] at hf
      have hq := Option.some.inj hf
      subst hq
      exact r_vret cx wo hr hlk dX9_relate_50
    · rw [if_neg c1] at hf
      refine lv_aload_n cx.1 cx.2.1 dX9_relate_10 rfl (lv_at hl 0 rfl) ?_
      refine r_getR cx wo ad_1.1 ad_1.2.1 ad_1.2.2 fiX9_86 (fn_1_14 wo.2.2.2.1) (by decide) dX9_relate_11 ?_
      refine lv_iload_n cx.1 cx.2.1 dX9_relate_14 rfl (lv_at hl 2 rfl) ?_
      refine lv_aload_n cx.1 cx.2.1 dX9_relate_15 rfl (lv_at hl 1 rfl) ?_
      refine lv_aload_n cx.1 cx.2.1 dX9_relate_16 rfl (lv_at hl 0 rfl) ?_
      refine r_getR cx wo ad_1.1 ad_1.2.1 ad_1.2.2 fiX9_82 (fn_1_13 wo.2.2.2.1) (by decide) dX9_relate_17 ?_
      refine lv_iload_n cx.1 cx.2.1 dX9_relate_20 rfl (lv_at hl 2 rfl) ?_
      obtain ⟨g2, hf⟩ := gd_elim hf
      refine r_iald cx wo ad_142.1 ad_142.2.1 ad_142.2.2 (by rw [ln_142]; exact g2) dX9_relate_21 ?_
      obtain ⟨q3, e4, hf⟩ := bd_elim hf
      refine r_Vi (rest := [.int x2, .ref (B + 143)]) cx wo (mX4_has l h1 e4) cvX9_134 rfl (riv_ok _ h1).1.1 (riv_ok _ h1).1.2.1 (riv_ok _ h1).1.2.2 rfl rfl hl.1 rfl (Nat.le_of_ble_eq_true rfl) (hR_ok (by decide)) dX9_relate_22 (fun H locs wo => ?_)
      refine lv_if_eq (tgt := 42) cx.1 cx.2.1 dX9_relate_25 (by decide) (fun c5 => ?_) (fun c5 => ?_)
      · rw [if_pos c5] at hf
        refine lv_iload_n cx.1 cx.2.1 dX9_relate_42 rfl (lv_at hl 2 rfl) ?_
        obtain ⟨g6, hf⟩ := gd_elim hf
        obtain ⟨M7, e8, hf⟩ := lt_elim hf
        refine r_iast cx wo ad_143.1 ad_143.2.1 ad_143.2.2 (by rw [ln_143]; exact g6) dX9_relate_43 (fun H locs wo => ?_)
        rw [← e8] at wo
        obtain ⟨y9, e10, hf⟩ := lt_elim hf
        refine lv_iinc (v := y9) (lv' := [(2, .int y9), (0, .ref (B + 1)), (1, .ref (B + a1))]) cx.1 cx.2.1 dX9_relate_44 hl (k := 2) rfl (by rw [e10]; rfl) (by decide) rfl (fun ls hl => ?_)
        refine lv_goto (tgt := 2) cx.1 cx.2.1 dX9_relate_47 (by decide) ?_
        exact ih _ _ h1 _ _ hf _ _ _ wo (lv_sub hl [1, 2, 0] rfl)
      · rw [if_neg c5] at hf
        refine lv_aload_n cx.1 cx.2.1 dX9_relate_28 rfl (lv_at hl 1 rfl) ?_
        refine r_getR cx wo (riv_ok _ h1).1.1 (riv_ok _ h1).1.2.1 (riv_ok _ h1).1.2.2 fiX9_151 (rv_fn3 wo.2.2.2.1 h1) (by omega) dX9_relate_29 ?_
        refine lv_aload_n cx.1 cx.2.1 dX9_relate_32 rfl (lv_at hl 0 rfl) ?_
        refine r_getR cx wo ad_1.1 ad_1.2.1 ad_1.2.2 fiX9_82 (fn_1_13 wo.2.2.2.1) (by decide) dX9_relate_33 ?_
        refine lv_iload_n cx.1 cx.2.1 dX9_relate_36 rfl (lv_at hl 2 rfl) ?_
        obtain ⟨g11, hf⟩ := gd_elim hf
        refine r_iald cx wo ad_142.1 ad_142.2.1 ad_142.2.2 (by rw [ln_142]; exact g11) dX9_relate_37 ?_
        obtain ⟨g12, hf⟩ := gd_elim hf
        refine r_iald cx wo (rvA3 h1).1 (rvA3 h1).2.1 (rvA3 h1).2.2 (by rw [(rvL3 h1)]; exact g12) dX9_relate_38 ?_
        refine lv_goto (tgt := 43) cx.1 cx.2.1 dX9_relate_39 (by decide) ?_
        obtain ⟨g13, hf⟩ := gd_elim hf
        obtain ⟨M14, e15, hf⟩ := lt_elim hf
        refine r_iast cx wo ad_143.1 ad_143.2.1 ad_143.2.2 (by rw [ln_143]; exact g13) dX9_relate_43 (fun H locs wo => ?_)
        rw [← e15] at wo
        obtain ⟨y16, e17, hf⟩ := lt_elim hf
        refine lv_iinc (v := y16) (lv' := [(2, .int y16), (0, .ref (B + 1)), (1, .ref (B + a1))]) cx.1 cx.2.1 dX9_relate_44 hl (k := 2) rfl (by rw [e17]; rfl) (by decide) rfl (fun ls hl => ?_)
        refine lv_goto (tgt := 2) cx.1 cx.2.1 dX9_relate_47 (by decide) ?_
        exact ih _ _ h1 _ _ hf _ _ _ wo (lv_sub hl [1, 2, 0] rfl)
set_option maxHeartbeats 1000000 in
set_option maxRecDepth 10000 in
theorem mX9_relate (l : Launch) {G : GG} {B : Nat} {a1 : Nat} (h1 : a1 ∈ rivers) {M : Mem} {q : Mem} (hf : fX9_relate a1 M = some q) : Met l yX9_relate (wsG yX9_relate cX9_relate 3 none) (rmN (3)) (PcW Ph G B 205 M [.ref (B + 1), .ref (B + a1)]) (QcV Ph G B 205 q) 0 0 (fr B) := by
  refine mk_Met (own := RX9) rfl rfl (Nat.le_of_ble_eq_true rfl) ?_
  intro p e s m below meth c ls cx hr hlk wo hl
  have hl : lv_has ls 3 [(0, .ref (B + 1)), (1, .ref (B + a1))] := hl
  unfold fX9_relate at hf
  refine lv_iconst (v := 0) cx.1 cx.2.1 dX9_relate_0 (by decide) ?_
  refine lv_istore_n (lv' := [(2, .int 0), (0, .ref (B + 1)), (1, .ref (B + a1))]) cx.1 cx.2.1 dX9_relate_1 rfl hl (by decide) rfl (fun ls hl => ?_)
  exact wX9_relate_2 cx hr hlk _ _ _ h1 _ _ hf _ _ _ wo (lv_sub hl [1, 2, 0] rfl)
set_option maxHeartbeats 1000000 in
set_option maxRecDepth 10000 in
theorem mX9_soonest (l : Launch) {G : GG} {B : Nat}   {M : Mem} {q : Int32 × Mem} (hf : fX9_soonest  M = some q) : Met l yX9_soonest (wsG yX9_soonest cX9_soonest 2 (some .int)) (rmN (7)) (PcW Ph G B 205 M [.ref (B + 1)]) (QcI Ph G B 205 q.1 q.2) 0 0 (fr B) := by
  refine mk_Met (own := RX9) rfl rfl (Nat.le_of_ble_eq_true rfl) ?_
  intro p e s m below meth c ls cx hr hlk wo hl
  have hl : lv_has ls 2 [(0, .ref (B + 1))] := hl
  unfold fX9_soonest at hf
  refine lv_aload_n cx.1 cx.2.1 dX9_soonest_0 rfl (lv_at hl 0 rfl) ?_
  obtain ⟨q1, e2, hf⟩ := bd_elim hf
  refine r_Vi (rest := []) cx wo (mX9_orderFault l e2) cvX9_313 rfl ad_1.1 ad_1.2.1 ad_1.2.2 rfl rfl hl.1 rfl (Nat.le_of_ble_eq_true rfl) (hR_ok (by decide)) dX9_soonest_1 (fun H locs wo => ?_)
  refine lv_istore_n (lv' := [(1, .int q1.1), (0, .ref (B + 1))]) cx.1 cx.2.1 dX9_soonest_4 rfl hl (by decide) rfl (fun ls hl => ?_)
  refine lv_iload_n cx.1 cx.2.1 dX9_soonest_5 rfl (lv_at hl 0 rfl) ?_
  refine lv_if_lt (tgt := 13) cx.1 cx.2.1 dX9_soonest_6 (by decide) (fun c3 => ?_) (fun c3 => ?_)
  · rw [if_pos c3] at hf
    refine lv_aload_n cx.1 cx.2.1 dX9_soonest_13 rfl (lv_at hl 1 rfl) ?_
    refine lv_aload_n cx.1 cx.2.1 dX9_soonest_14 rfl (lv_at hl 1 rfl) ?_
    refine r_getR cx wo ad_1.1 ad_1.2.1 ad_1.2.2 fiX9_26 (fn_1_2 wo.2.2.2.1) (by decide) dX9_soonest_15 ?_
    obtain ⟨q4, e5, hf⟩ := bd_elim hf
    refine r_Vv (rest := []) cx wo (mX9_relate l (by decide) e5) cvX9_316 rfl ad_1.1 ad_1.2.1 ad_1.2.2 rfl rfl hl.1 rfl (Nat.le_of_ble_eq_true rfl) (hR_ok (by decide)) dX9_soonest_18 (fun H locs wo => ?_)
    refine lv_aload_n cx.1 cx.2.1 dX9_soonest_21 rfl (lv_at hl 1 rfl) ?_
    refine r_getR cx wo ad_1.1 ad_1.2.1 ad_1.2.2 fiX9_71 (fn_1_11 wo.2.2.2.1) (by decide) dX9_soonest_22 ?_
    refine lv_aload_n cx.1 cx.2.1 dX9_soonest_25 rfl (lv_at hl 1 rfl) ?_
    refine r_getR cx wo ad_1.1 ad_1.2.1 ad_1.2.2 fiX9_26 (fn_1_2 wo.2.2.2.1) (by decide) dX9_soonest_26 ?_
    refine r_getI cx wo ad_6.1 ad_6.2.1 ad_6.2.2 fiX9_282 dX9_soonest_29 ?_
    obtain ⟨q6, e7, hf⟩ := bd_elim hf
    refine r_Vv (rest := []) cx wo (mX1_prepare l e7) cvX9_292 rfl ad_115.1 ad_115.2.1 ad_115.2.2 rfl rfl hl.1 rfl (Nat.le_of_ble_eq_true rfl) (hR_ok (by decide)) dX9_soonest_32 (fun H locs wo => ?_)
    refine lv_aload_n cx.1 cx.2.1 dX9_soonest_35 rfl (lv_at hl 1 rfl) ?_
    refine r_getR cx wo ad_1.1 ad_1.2.1 ad_1.2.2 fiX9_71 (fn_1_11 wo.2.2.2.1) (by decide) dX9_soonest_36 ?_
    refine lv_aload_n cx.1 cx.2.1 dX9_soonest_39 rfl (lv_at hl 1 rfl) ?_
    refine r_getR cx wo ad_1.1 ad_1.2.1 ad_1.2.2 fiX9_86 (fn_1_14 wo.2.2.2.1) (by decide) dX9_soonest_40 ?_
    obtain ⟨q8, e9, hf⟩ := bd_elim hf
    refine r_Vi (rest := []) cx wo (mX1_daysFor l ad_143 e9) cvX9_319 rfl ad_115.1 ad_115.2.1 ad_115.2.2 rfl rfl hl.1 rfl (Nat.le_of_ble_eq_true rfl) (hR_ok (by decide)) dX9_soonest_43 (fun H locs wo => ?_)
    have hq := Option.some.inj hf
    subst hq
    exact r_iret cx wo hr hlk dX9_soonest_46
  · rw [if_neg c3] at hf
    refine lv_iconst (v := (-1)) cx.1 cx.2.1 dX9_soonest_9 (by decide) ?_
    refine lv_iload_n cx.1 cx.2.1 dX9_soonest_10 rfl (lv_at hl 0 rfl) ?_
    refine lv_isub cx.1 cx.2.1 dX9_soonest_11 ?_
    have hq := Option.some.inj hf
    subst hq
    exact r_iret cx wo hr hlk dX9_soonest_12
set_option maxHeartbeats 1000000 in
set_option maxRecDepth 10000 in
theorem wX9_tellFarthest_20 (cx : Cx p s m args c cX9_tellFarthest 6 RX9 G) (hr : meth.sig.returnType = none) (hlk : meth.locks = false) {k6 : Int32 → Int32 → Int32 → Mem → Option (Mem)} (hk6 : ∀ (x1 : Int32) (x2 : Int32) (x3 : Int32)  (M : Mem) (q : Mem), k6 x1 x2 x3 M = some q → ∀ (H : Heap) (locs : List Loc) (ls : Array Slot), Wo Ph G B 205 s M H locs → lv_has ls 6 [(0, .ref (B + 1)), (1, .int x1), (2, .int x2), (3, .int x3)] → W p l e (rmN (4)) s m args below meth c H locs 0 0 (MQ below (QcV Ph G B 205 q) args s 0 0 (fr B)) (F0 m 6 ls [])) : ∀ (n : Nat) (x1 : Int32) (x2 : Int32) (x3 : Int32) (x4 : Int32)  (M : Mem) (q : Mem), fX9_tellFarthest_20 k6 n x1 x2 x3 x4 M = some q → ∀ (H : Heap) (locs : List Loc) (ls : Array Slot), Wo Ph G B 205 s M H locs → lv_has ls 6 [(0, .ref (B + 1)), (1, .int x1), (2, .int x2), (3, .int x3), (4, .int x4)] → W p l e (rmN (4)) s m args below meth c H locs 0 0 (MQ below (QcV Ph G B 205 q) args s 0 0 (fr B)) (F0 m 20 ls []) := by
  intro n
  induction n with
  | zero =>
    intro x1 x2 x3 x4 M q hf H locs ls wo hl
    have hf : none = some q := hf
    cases hf
  | succ n ih =>
    intro x1 x2 x3 x4 M q hf H locs ls wo hl
    rw [fX9_tellFarthest_20] at hf
    refine lv_iload cx.1 cx.2.1 dX9_tellFarthest_20 (lv_at hl 4 rfl) ?_
    refine lv_aload_n cx.1 cx.2.1 dX9_tellFarthest_22 rfl (lv_at hl 0 rfl) ?_
    refine r_getR cx wo ad_1.1 ad_1.2.1 ad_1.2.2 fiX9_26 (fn_1_2 wo.2.2.2.1) (by decide) dX9_tellFarthest_23 ?_
    refine r_getI cx wo ad_6.1 ad_6.2.1 ad_6.2.2 fiX9_282 dX9_tellFarthest_26 ?_
    refine lv_icmp_ge (tgt := 77) cx.1 cx.2.1 dX9_tellFarthest_29 (by decide) (fun c4 => ?_) (fun c4 => ?_)
    · rw [if_pos c4] at hf
      obtain ⟨y5, e6, hf⟩ := lt_elim hf
      refine lv_iinc (v := y5) (lv' := [(3, .int y5), (0, .ref (B + 1)), (1, .int x1), (2, .int x2), (4, .int x4)]) cx.1 cx.2.1 dX9_tellFarthest_77 hl (k := 3) rfl (by rw [e6]; rfl) (by decide) rfl (fun ls hl => ?_)
      refine lv_goto (tgt := 6) cx.1 cx.2.1 dX9_tellFarthest_80 (by decide) ?_
      exact hk6 _ _ _ _ _ hf _ _ _ wo (lv_sub hl [1, 2, 3, 0] rfl)
    · rw [if_neg c4] at hf
      refine lv_iload cx.1 cx.2.1 dX9_tellFarthest_32 (lv_at hl 4 rfl) ?_
      refine lv_aload_n cx.1 cx.2.1 dX9_tellFarthest_34 rfl (lv_at hl 0 rfl) ?_
      refine r_getR cx wo ad_1.1 ad_1.2.1 ad_1.2.2 fiX9_26 (fn_1_2 wo.2.2.2.1) (by decide) dX9_tellFarthest_35 ?_
      refine r_getR cx wo ad_6.1 ad_6.2.1 ad_6.2.2 fiX9_151 (fn_6_3 wo.2.2.2.1) (by decide) dX9_tellFarthest_38 ?_
      refine lv_iload_n cx.1 cx.2.1 dX9_tellFarthest_41 rfl (lv_at hl 3 rfl) ?_
      obtain ⟨g7, hf⟩ := gd_elim hf
      refine r_iald cx wo ad_9.1 ad_9.2.1 ad_9.2.2 (by rw [ln_9]; exact g7) dX9_tellFarthest_42 ?_
      refine lv_isub cx.1 cx.2.1 dX9_tellFarthest_43 ?_
      refine r_mabs cx hl.1 mmX9_426 (by decide) (Nat.le_of_ble_eq_true rfl) (Nat.zero_le _) (Nat.zero_le _) dX9_tellFarthest_44 ?_
      obtain ⟨y8, e9, hf⟩ := lt_elim hf
      refine r_topi e9 ?_
      refine lv_istore (lv' := [(5, .int y8), (0, .ref (B + 1)), (1, .int x1), (2, .int x2), (3, .int x3), (4, .int x4)]) cx.1 cx.2.1 dX9_tellFarthest_47 hl (by decide) rfl (fun ls hl => ?_)
      refine lv_aload_n cx.1 cx.2.1 dX9_tellFarthest_49 rfl (lv_at hl 1 rfl) ?_
      refine r_getR cx wo ad_1.1 ad_1.2.1 ad_1.2.2 fiX9_82 (fn_1_13 wo.2.2.2.1) (by decide) dX9_tellFarthest_50 ?_
      refine lv_iload cx.1 cx.2.1 dX9_tellFarthest_53 (lv_at hl 5 rfl) ?_
      obtain ⟨g10, hf⟩ := gd_elim hf
      refine r_iald cx wo ad_142.1 ad_142.2.1 ad_142.2.2 (by rw [ln_142]; exact g10) dX9_tellFarthest_55 ?_
      refine lv_iload_n cx.1 cx.2.1 dX9_tellFarthest_56 rfl (lv_at hl 4 rfl) ?_
      refine lv_icmp_ne (tgt := 71) cx.1 cx.2.1 dX9_tellFarthest_57 (by decide) (fun c11 => ?_) (fun c11 => ?_)
      · rw [if_neg c11] at hf
        obtain ⟨y12, e13, hf⟩ := lt_elim hf
        refine lv_iinc (v := y12) (lv' := [(4, .int y12), (5, .int y8), (0, .ref (B + 1)), (1, .int x1), (2, .int x2), (3, .int x3)]) cx.1 cx.2.1 dX9_tellFarthest_71 hl (k := 5) rfl (by rw [e13]; rfl) (by decide) rfl (fun ls hl => ?_)
        refine lv_goto (tgt := 20) cx.1 cx.2.1 dX9_tellFarthest_74 (by decide) ?_
        exact ih _ _ _ _ _ _ hf _ _ _ wo (lv_sub hl [2, 3, 4, 5, 0] rfl)
      · rw [if_pos c11] at hf
        refine lv_iload cx.1 cx.2.1 dX9_tellFarthest_60 (lv_at hl 0 rfl) ?_
        refine lv_iload_n cx.1 cx.2.1 dX9_tellFarthest_62 rfl (lv_at hl 3 rfl) ?_
        refine lv_icmp_le (tgt := 71) cx.1 cx.2.1 dX9_tellFarthest_63 (by decide) (fun c14 => ?_) (fun c14 => ?_)
        · rw [if_pos c14] at hf
          obtain ⟨y15, e16, hf⟩ := lt_elim hf
          refine lv_iinc (v := y15) (lv' := [(4, .int y15), (5, .int y8), (0, .ref (B + 1)), (1, .int x1), (2, .int x2), (3, .int x3)]) cx.1 cx.2.1 dX9_tellFarthest_71 hl (k := 5) rfl (by rw [e16]; rfl) (by decide) rfl (fun ls hl => ?_)
          refine lv_goto (tgt := 20) cx.1 cx.2.1 dX9_tellFarthest_74 (by decide) ?_
          exact ih _ _ _ _ _ _ hf _ _ _ wo (lv_sub hl [2, 3, 4, 5, 0] rfl)
        · rw [if_neg c14] at hf
          refine lv_iload_n cx.1 cx.2.1 dX9_tellFarthest_66 rfl (lv_at hl 4 rfl) ?_
          refine lv_istore_n (lv' := [(1, .int x3), (5, .int y8), (0, .ref (B + 1)), (2, .int x2), (3, .int x3), (4, .int x4)]) cx.1 cx.2.1 dX9_tellFarthest_67 rfl hl (by decide) rfl (fun ls hl => ?_)
          refine lv_iload cx.1 cx.2.1 dX9_tellFarthest_68 (lv_at hl 1 rfl) ?_
          refine lv_istore_n (lv' := [(2, .int y8), (1, .int x3), (5, .int y8), (0, .ref (B + 1)), (3, .int x3), (4, .int x4)]) cx.1 cx.2.1 dX9_tellFarthest_70 rfl hl (by decide) rfl (fun ls hl => ?_)
          obtain ⟨y17, e18, hf⟩ := lt_elim hf
          refine lv_iinc (v := y17) (lv' := [(4, .int y17), (2, .int y8), (1, .int x3), (5, .int y8), (0, .ref (B + 1)), (3, .int x3)]) cx.1 cx.2.1 dX9_tellFarthest_71 hl (k := 5) rfl (by rw [e18]; rfl) (by decide) rfl (fun ls hl => ?_)
          refine lv_goto (tgt := 20) cx.1 cx.2.1 dX9_tellFarthest_74 (by decide) ?_
          exact ih _ _ _ _ _ _ hf _ _ _ wo (lv_sub hl [4, 2, 1, 5, 0] rfl)
set_option maxHeartbeats 1000000 in
set_option maxRecDepth 10000 in
theorem wX9_tellFarthest_6 (cx : Cx p s m args c cX9_tellFarthest 6 RX9 G) (hr : meth.sig.returnType = none) (hlk : meth.locks = false) : ∀ (n : Nat) (x1 : Int32) (x2 : Int32) (x3 : Int32)  (M : Mem) (q : Mem), fX9_tellFarthest_6 n x1 x2 x3 M = some q → ∀ (H : Heap) (locs : List Loc) (ls : Array Slot), Wo Ph G B 205 s M H locs → lv_has ls 6 [(0, .ref (B + 1)), (1, .int x1), (2, .int x2), (3, .int x3)] → W p l e (rmN (4)) s m args below meth c H locs 0 0 (MQ below (QcV Ph G B 205 q) args s 0 0 (fr B)) (F0 m 6 ls []) := by
  intro n
  induction n with
  | zero =>
    intro x1 x2 x3 M q hf H locs ls wo hl
    have hf : none = some q := hf
    cases hf
  | succ n ih =>
    intro x1 x2 x3 M q hf H locs ls wo hl
    rw [fX9_tellFarthest_6] at hf
    refine lv_iload_n cx.1 cx.2.1 dX9_tellFarthest_6 rfl (lv_at hl 3 rfl) ?_
    refine lv_aload_n cx.1 cx.2.1 dX9_tellFarthest_7 rfl (lv_at hl 0 rfl) ?_
    refine r_getR cx wo ad_1.1 ad_1.2.1 ad_1.2.2 fiX9_26 (fn_1_2 wo.2.2.2.1) (by decide) dX9_tellFarthest_8 ?_
    refine r_getI cx wo ad_6.1 ad_6.2.1 ad_6.2.2 fiX9_282 dX9_tellFarthest_11 ?_
    refine lv_icmp_ge (tgt := 83) cx.1 cx.2.1 dX9_tellFarthest_14 (by decide) (fun c1 => ?_) (fun c1 => ?_)
    · rw [if_pos c1] at hf
      refine lv_aload_n cx.1 cx.2.1 dX9_tellFarthest_83 rfl (lv_at hl 0 rfl) ?_
      refine r_getR cx wo ad_1.1 ad_1.2.1 ad_1.2.2 fiX9_19 (fn_1_1 wo.2.2.2.1) (by decide) dX9_tellFarthest_84 ?_
      refine lv_iload_n cx.1 cx.2.1 dX9_tellFarthest_87 rfl (lv_at hl 1 rfl) ?_
      refine lv_i2l (v := x1.toInt64) cx.1 cx.2.1 dX9_tellFarthest_88 rfl ?_
      refine lv_iload_n cx.1 cx.2.1 dX9_tellFarthest_89 rfl (lv_at hl 2 rfl) ?_
      refine lv_i2l (v := x2.toInt64) cx.1 cx.2.1 dX9_tellFarthest_90 rfl ?_
      obtain ⟨q2, e3, hf⟩ := bd_elim hf
      refine r_Vv (rest := []) cx wo (mX5_tellBoth l e3) cvX9_227 rfl ad_4.1 ad_4.2.1 ad_4.2.2 rfl rfl hl.1 rfl (Nat.le_of_ble_eq_true rfl) (hR_ok (by decide)) dX9_tellFarthest_91 (fun H locs wo => ?_)
      have hq := Option.some.inj hf
      subst hq
      exact r_vret cx wo hr hlk dX9_tellFarthest_94
    · rw [if_neg c1] at hf
      refine lv_iconst (v := 0) cx.1 cx.2.1 dX9_tellFarthest_17 (by decide) ?_
      refine lv_istore (lv' := [(4, .int 0), (0, .ref (B + 1)), (1, .int x1), (2, .int x2), (3, .int x3)]) cx.1 cx.2.1 dX9_tellFarthest_18 hl (by decide) rfl (fun ls hl => ?_)
      exact wX9_tellFarthest_20 cx hr hlk ih _ _ _ _ _ _ _ hf _ _ _ wo (lv_sub hl [1, 2, 3, 4, 0] rfl)
set_option maxHeartbeats 1000000 in
set_option maxRecDepth 10000 in
theorem mX9_tellFarthest (l : Launch) {G : GG} {B : Nat}   {M : Mem} {q : Mem} (hf : fX9_tellFarthest  M = some q) : Met l yX9_tellFarthest (wsG yX9_tellFarthest cX9_tellFarthest 6 none) (rmN (4)) (PcW Ph G B 205 M [.ref (B + 1)]) (QcV Ph G B 205 q) 0 0 (fr B) := by
  refine mk_Met (own := RX9) rfl rfl (Nat.le_of_ble_eq_true rfl) ?_
  intro p e s m below meth c ls cx hr hlk wo hl
  have hl : lv_has ls 6 [(0, .ref (B + 1))] := hl
  unfold fX9_tellFarthest at hf
  refine lv_iconst (v := 0) cx.1 cx.2.1 dX9_tellFarthest_0 (by decide) ?_
  refine lv_istore_n (lv' := [(1, .int 0), (0, .ref (B + 1))]) cx.1 cx.2.1 dX9_tellFarthest_1 rfl hl (by decide) rfl (fun ls hl => ?_)
  refine lv_iconst (v := 0) cx.1 cx.2.1 dX9_tellFarthest_2 (by decide) ?_
  refine lv_istore_n (lv' := [(2, .int 0), (1, .int 0), (0, .ref (B + 1))]) cx.1 cx.2.1 dX9_tellFarthest_3 rfl hl (by decide) rfl (fun ls hl => ?_)
  refine lv_iconst (v := 0) cx.1 cx.2.1 dX9_tellFarthest_4 (by decide) ?_
  refine lv_istore_n (lv' := [(3, .int 0), (2, .int 0), (1, .int 0), (0, .ref (B + 1))]) cx.1 cx.2.1 dX9_tellFarthest_5 rfl hl (by decide) rfl (fun ls hl => ?_)
  exact wX9_tellFarthest_6 cx hr hlk _ _ _ _ _ _ hf _ _ _ wo (lv_sub hl [3, 2, 1, 0] rfl)
set_option maxHeartbeats 1000000 in
set_option maxRecDepth 10000 in
theorem wX9_crossed_39 (cx : Cx p s m args c cX9_crossed 5 RX9 G) (hr : meth.sig.returnType = (some .int)) (hlk : meth.locks = false) {k25 : Int32 → Int32 → Mem → Option (Int32 × Mem)} (hk25 : ∀ (x2 : Int32) (x3 : Int32)  (M : Mem) (q : Int32 × Mem), k25 x2 x3 M = some q → ∀ (H : Heap) (locs : List Loc) (ls : Array Slot), Wo Ph G B 205 s M H locs → lv_has ls 5 [(0, .ref (B + 1)), (2, .int x2), (3, .int x3)] → W p l e (rmN (6)) s m args below meth c H locs 0 0 (MQ below (QcI Ph G B 205 q.1 q.2) args s 0 0 (fr B)) (F0 m 25 ls [])) : ∀ (n : Nat) (x2 : Int32) (x3 : Int32) (x4 : Int32)  (M : Mem) (q : Int32 × Mem), fX9_crossed_39 k25 n x2 x3 x4 M = some q → ∀ (H : Heap) (locs : List Loc) (ls : Array Slot), Wo Ph G B 205 s M H locs → lv_has ls 5 [(0, .ref (B + 1)), (2, .int x2), (3, .int x3), (4, .int x4)] → W p l e (rmN (6)) s m args below meth c H locs 0 0 (MQ below (QcI Ph G B 205 q.1 q.2) args s 0 0 (fr B)) (F0 m 39 ls []) := by
  intro n
  induction n with
  | zero =>
    intro x2 x3 x4 M q hf H locs ls wo hl
    have hf : none = some q := hf
    cases hf
  | succ n ih =>
    intro x2 x3 x4 M q hf H locs ls wo hl
    rw [fX9_crossed_39] at hf
    refine lv_iload cx.1 cx.2.1 dX9_crossed_39 (lv_at hl 3 rfl) ?_
    refine lv_iload_n cx.1 cx.2.1 dX9_crossed_41 rfl (lv_at hl 2 rfl) ?_
    refine lv_icmp_ge (tgt := 75) cx.1 cx.2.1 dX9_crossed_42 (by decide) (fun c9 => ?_) (fun c9 => ?_)
    · rw [if_pos c9] at hf
      obtain ⟨y10, e11, hf⟩ := lt_elim hf
      refine lv_iinc (v := y10) (lv' := [(3, .int y10), (0, .ref (B + 1)), (2, .int x2), (4, .int x4)]) cx.1 cx.2.1 dX9_crossed_75 hl (k := 2) rfl (by rw [e11]; rfl) (by decide) rfl (fun ls hl => ?_)
      refine lv_goto (tgt := 25) cx.1 cx.2.1 dX9_crossed_78 (by decide) ?_
      exact hk25 _ _ _ _ hf _ _ _ wo (lv_sub hl [1, 2, 0] rfl)
    · rw [if_neg c9] at hf
      refine lv_iload_n cx.1 cx.2.1 dX9_crossed_45 rfl (lv_at hl 1 rfl) ?_
      refine lv_aload_n cx.1 cx.2.1 dX9_crossed_46 rfl (lv_at hl 0 rfl) ?_
      refine r_getR cx wo ad_1.1 ad_1.2.1 ad_1.2.2 fiX9_86 (fn_1_14 wo.2.2.2.1) (by decide) dX9_crossed_47 ?_
      refine lv_iload cx.1 cx.2.1 dX9_crossed_50 (lv_at hl 3 rfl) ?_
      obtain ⟨g12, hf⟩ := gd_elim hf
      refine r_iald cx wo ad_143.1 ad_143.2.1 ad_143.2.2 (by rw [ln_143]; exact g12) dX9_crossed_52 ?_
      refine lv_aload_n cx.1 cx.2.1 dX9_crossed_53 rfl (lv_at hl 0 rfl) ?_
      refine r_getR cx wo ad_1.1 ad_1.2.1 ad_1.2.2 fiX9_86 (fn_1_14 wo.2.2.2.1) (by decide) dX9_crossed_54 ?_
      refine lv_iload_n cx.1 cx.2.1 dX9_crossed_57 rfl (lv_at hl 2 rfl) ?_
      obtain ⟨g13, hf⟩ := gd_elim hf
      refine r_iald cx wo ad_143.1 ad_143.2.1 ad_143.2.2 (by rw [ln_143]; exact g13) dX9_crossed_58 ?_
      refine lv_icmp_le (tgt := 66) cx.1 cx.2.1 dX9_crossed_59 (by decide) (fun c14 => ?_) (fun c14 => ?_)
      · rw [if_pos c14] at hf
        refine lv_iconst (v := 0) cx.1 cx.2.1 dX9_crossed_66 (by decide) ?_
        refine lv_iadd cx.1 cx.2.1 dX9_crossed_67 ?_
        obtain ⟨y15, e16, hf⟩ := lt_elim hf
        refine r_topi e16 ?_
        refine lv_istore_n (lv' := [(2, .int y15), (0, .ref (B + 1)), (3, .int x3), (4, .int x4)]) cx.1 cx.2.1 dX9_crossed_68 rfl hl (by decide) rfl (fun ls hl => ?_)
        obtain ⟨y17, e18, hf⟩ := lt_elim hf
        refine lv_iinc (v := y17) (lv' := [(4, .int y17), (2, .int y15), (0, .ref (B + 1)), (3, .int x3)]) cx.1 cx.2.1 dX9_crossed_69 hl (k := 3) rfl (by rw [e18]; rfl) (by decide) rfl (fun ls hl => ?_)
        refine lv_goto (tgt := 39) cx.1 cx.2.1 dX9_crossed_72 (by decide) ?_
        exact ih _ _ _ _ _ hf _ _ _ wo (lv_sub hl [2, 1, 3, 0] rfl)
      · rw [if_neg c14] at hf
        refine lv_iconst (v := 1) cx.1 cx.2.1 dX9_crossed_62 (by decide) ?_
        refine lv_goto (tgt := 67) cx.1 cx.2.1 dX9_crossed_63 (by decide) ?_
        refine lv_iadd cx.1 cx.2.1 dX9_crossed_67 ?_
        obtain ⟨y19, e20, hf⟩ := lt_elim hf
        refine r_topi e20 ?_
        refine lv_istore_n (lv' := [(2, .int y19), (0, .ref (B + 1)), (3, .int x3), (4, .int x4)]) cx.1 cx.2.1 dX9_crossed_68 rfl hl (by decide) rfl (fun ls hl => ?_)
        obtain ⟨y21, e22, hf⟩ := lt_elim hf
        refine lv_iinc (v := y21) (lv' := [(4, .int y21), (2, .int y19), (0, .ref (B + 1)), (3, .int x3)]) cx.1 cx.2.1 dX9_crossed_69 hl (k := 3) rfl (by rw [e22]; rfl) (by decide) rfl (fun ls hl => ?_)
        refine lv_goto (tgt := 39) cx.1 cx.2.1 dX9_crossed_72 (by decide) ?_
        exact ih _ _ _ _ _ hf _ _ _ wo (lv_sub hl [2, 1, 3, 0] rfl)
set_option maxHeartbeats 1000000 in
set_option maxRecDepth 10000 in
theorem wX9_crossed_25 (cx : Cx p s m args c cX9_crossed 5 RX9 G) (hr : meth.sig.returnType = (some .int)) (hlk : meth.locks = false) : ∀ (n : Nat) (x2 : Int32) (x3 : Int32)  (M : Mem) (q : Int32 × Mem), fX9_crossed_25 n x2 x3 M = some q → ∀ (H : Heap) (locs : List Loc) (ls : Array Slot), Wo Ph G B 205 s M H locs → lv_has ls 5 [(0, .ref (B + 1)), (2, .int x2), (3, .int x3)] → W p l e (rmN (6)) s m args below meth c H locs 0 0 (MQ below (QcI Ph G B 205 q.1 q.2) args s 0 0 (fr B)) (F0 m 25 ls []) := by
  intro n
  induction n with
  | zero =>
    intro x2 x3 M q hf H locs ls wo hl
    have hf : none = some q := hf
    cases hf
  | succ n ih =>
    intro x2 x3 M q hf H locs ls wo hl
    rw [fX9_crossed_25] at hf
    refine lv_iload_n cx.1 cx.2.1 dX9_crossed_25 rfl (lv_at hl 2 rfl) ?_
    refine lv_aload_n cx.1 cx.2.1 dX9_crossed_26 rfl (lv_at hl 0 rfl) ?_
    refine r_getR cx wo ad_1.1 ad_1.2.1 ad_1.2.2 fiX9_26 (fn_1_2 wo.2.2.2.1) (by decide) dX9_crossed_27 ?_
    refine r_getI cx wo ad_6.1 ad_6.2.1 ad_6.2.2 fiX9_282 dX9_crossed_30 ?_
    refine lv_icmp_ge (tgt := 81) cx.1 cx.2.1 dX9_crossed_33 (by decide) (fun c6 => ?_) (fun c6 => ?_)
    · rw [if_pos c6] at hf
      refine lv_aload_n cx.1 cx.2.1 dX9_crossed_81 rfl (lv_at hl 0 rfl) ?_
      obtain ⟨q7, e8, hf⟩ := bd_elim hf
      refine r_Vv (rest := []) cx wo (mX9_tellFarthest l e8) cvX9_323 rfl ad_1.1 ad_1.2.1 ad_1.2.2 rfl rfl hl.1 rfl (Nat.le_of_ble_eq_true rfl) (hR_ok (by decide)) dX9_crossed_82 (fun H locs wo => ?_)
      refine lv_iload_n cx.1 cx.2.1 dX9_crossed_85 rfl (lv_at hl 1 rfl) ?_
      have hq := Option.some.inj hf
      subst hq
      exact r_iret cx wo hr hlk dX9_crossed_86
    · rw [if_neg c6] at hf
      refine lv_iconst (v := 0) cx.1 cx.2.1 dX9_crossed_36 (by decide) ?_
      refine lv_istore (lv' := [(4, .int 0), (0, .ref (B + 1)), (2, .int x2), (3, .int x3)]) cx.1 cx.2.1 dX9_crossed_37 hl (by decide) rfl (fun ls hl => ?_)
      exact wX9_crossed_39 cx hr hlk ih _ _ _ _ _ _ hf _ _ _ wo (lv_sub hl [1, 2, 3, 0] rfl)
set_option maxHeartbeats 1000000 in
set_option maxRecDepth 10000 in
theorem mX9_crossed (l : Launch) {G : GG} {B : Nat}   {M : Mem} {q : Int32 × Mem} (hf : fX9_crossed  M = some q) : Met l yX9_crossed (wsG yX9_crossed cX9_crossed 5 (some .int)) (rmN (6)) (PcW Ph G B 205 M [.ref (B + 1)]) (QcI Ph G B 205 q.1 q.2) 0 0 (fr B) := by
  refine mk_Met (own := RX9) rfl rfl (Nat.le_of_ble_eq_true rfl) ?_
  intro p e s m below meth c ls cx hr hlk wo hl
  have hl : lv_has ls 5 [(0, .ref (B + 1))] := hl
  unfold fX9_crossed at hf
  refine lv_aload_n cx.1 cx.2.1 dX9_crossed_0 rfl (lv_at hl 0 rfl) ?_
  obtain ⟨q1, e2, hf⟩ := bd_elim hf
  refine r_Vi (rest := []) cx wo (mX9_orderFault l e2) cvX9_313 rfl ad_1.1 ad_1.2.1 ad_1.2.2 rfl rfl hl.1 rfl (Nat.le_of_ble_eq_true rfl) (hR_ok (by decide)) dX9_crossed_1 (fun H locs wo => ?_)
  refine lv_istore_n (lv' := [(1, .int q1.1), (0, .ref (B + 1))]) cx.1 cx.2.1 dX9_crossed_4 rfl hl (by decide) rfl (fun ls hl => ?_)
  refine lv_iload_n cx.1 cx.2.1 dX9_crossed_5 rfl (lv_at hl 0 rfl) ?_
  refine lv_if_lt (tgt := 13) cx.1 cx.2.1 dX9_crossed_6 (by decide) (fun c3 => ?_) (fun c3 => ?_)
  · rw [if_pos c3] at hf
    refine lv_aload_n cx.1 cx.2.1 dX9_crossed_13 rfl (lv_at hl 1 rfl) ?_
    refine lv_aload_n cx.1 cx.2.1 dX9_crossed_14 rfl (lv_at hl 1 rfl) ?_
    refine r_getR cx wo ad_1.1 ad_1.2.1 ad_1.2.2 fiX9_26 (fn_1_2 wo.2.2.2.1) (by decide) dX9_crossed_15 ?_
    obtain ⟨q4, e5, hf⟩ := bd_elim hf
    refine r_Vv (rest := []) cx wo (mX9_relate l (by decide) e5) cvX9_316 rfl ad_1.1 ad_1.2.1 ad_1.2.2 rfl rfl hl.1 rfl (Nat.le_of_ble_eq_true rfl) (hR_ok (by decide)) dX9_crossed_18 (fun H locs wo => ?_)
    refine lv_iconst (v := 0) cx.1 cx.2.1 dX9_crossed_21 (by decide) ?_
    refine lv_istore_n (lv' := [(2, .int 0), (1, .int q1.1), (0, .ref (B + 1))]) cx.1 cx.2.1 dX9_crossed_22 rfl hl (by decide) rfl (fun ls hl => ?_)
    refine lv_iconst (v := 0) cx.1 cx.2.1 dX9_crossed_23 (by decide) ?_
    refine lv_istore_n (lv' := [(3, .int 0), (2, .int 0), (1, .int q1.1), (0, .ref (B + 1))]) cx.1 cx.2.1 dX9_crossed_24 rfl hl (by decide) rfl (fun ls hl => ?_)
    exact wX9_crossed_25 cx hr hlk _ _ _ _ _ hf _ _ _ wo (lv_sub hl [3, 1, 0] rfl)
  · rw [if_neg c3] at hf
    refine lv_iconst (v := (-1)) cx.1 cx.2.1 dX9_crossed_9 (by decide) ?_
    refine lv_iload_n cx.1 cx.2.1 dX9_crossed_10 rfl (lv_at hl 0 rfl) ?_
    refine lv_isub cx.1 cx.2.1 dX9_crossed_11 ?_
    have hq := Option.some.inj hf
    subst hq
    exact r_iret cx wo hr hlk dX9_crossed_12
set_option maxHeartbeats 1000000 in
set_option maxRecDepth 10000 in
theorem wX9_chartFault_4 (cx : Cx p s m args c cX9_chartFault 4 RX9 G) (hr : meth.sig.returnType = (some .int)) (hlk : meth.locks = false) : ∀ (n : Nat) (x1 : Int32) (x2 : Int32)  (M : Mem) (q : Int32 × Mem), fX9_chartFault_4 n x1 x2 M = some q → ∀ (H : Heap) (locs : List Loc) (ls : Array Slot), Wo Ph G B 205 s M H locs → lv_has ls 4 [(0, .ref (B + 1)), (1, .int x1), (2, .int x2)] → W p l e (rmN (5)) s m args below meth c H locs 0 0 (MQ below (QcI Ph G B 205 q.1 q.2) args s 0 0 (fr B)) (F0 m 4 ls []) := by
  intro n
  induction n with
  | zero =>
    intro x1 x2 M q hf H locs ls wo hl
    have hf : none = some q := hf
    cases hf
  | succ n ih =>
    intro x1 x2 M q hf H locs ls wo hl
    rw [fX9_chartFault_4] at hf
    refine lv_iload_n cx.1 cx.2.1 dX9_chartFault_4 rfl (lv_at hl 2 rfl) ?_
    refine lv_bipush (v := 80) cx.1 cx.2.1 dX9_chartFault_5 (by decide) ?_
    refine lv_icmp_gt (tgt := 70) cx.1 cx.2.1 dX9_chartFault_7 (by decide) (fun c1 => ?_) (fun c1 => ?_)
    · rw [if_pos c1] at hf
      refine lv_iconst (v := (-1)) cx.1 cx.2.1 dX9_chartFault_70 (by decide) ?_
      have hq := Option.some.inj hf
      subst hq
      exact r_iret cx wo hr hlk dX9_chartFault_71
    · rw [if_neg c1] at hf
      refine lv_aload_n cx.1 cx.2.1 dX9_chartFault_10 rfl (lv_at hl 0 rfl) ?_
      refine lv_iload_n cx.1 cx.2.1 dX9_chartFault_11 rfl (lv_at hl 1 rfl) ?_
      obtain ⟨q2, e3, hf⟩ := bd_elim hf
      refine r_Vi (rest := []) cx wo (mX9_readOrder l e3) cvX9_329 rfl ad_1.1 ad_1.2.1 ad_1.2.2 rfl rfl hl.1 rfl (Nat.le_of_ble_eq_true rfl) (hR_ok (by decide)) dX9_chartFault_12 (fun H locs wo => ?_)
      refine lv_istore_n (lv' := [(3, .int q2.1), (0, .ref (B + 1)), (1, .int x1), (2, .int x2)]) cx.1 cx.2.1 dX9_chartFault_15 rfl hl (by decide) rfl (fun ls hl => ?_)
      refine lv_iload_n cx.1 cx.2.1 dX9_chartFault_16 rfl (lv_at hl 0 rfl) ?_
      refine lv_if_lt (tgt := 22) cx.1 cx.2.1 dX9_chartFault_17 (by decide) (fun c4 => ?_) (fun c4 => ?_)
      · rw [if_pos c4] at hf
        refine lv_iload_n cx.1 cx.2.1 dX9_chartFault_22 rfl (lv_at hl 2 rfl) ?_
        refine lv_aload_n cx.1 cx.2.1 dX9_chartFault_23 rfl (lv_at hl 1 rfl) ?_
        refine r_getR cx wo ad_1.1 ad_1.2.1 ad_1.2.2 fiX9_26 (fn_1_2 wo.2.2.2.1) (by decide) dX9_chartFault_24 ?_
        refine r_getI cx wo ad_6.1 ad_6.2.1 ad_6.2.2 fiX9_282 dX9_chartFault_27 ?_
        refine lv_iadd cx.1 cx.2.1 dX9_chartFault_30 ?_
        obtain ⟨y5, e6, hf⟩ := lt_elim hf
        refine r_topi e6 ?_
        refine lv_istore_n (lv' := [(1, .int y5), (3, .int q2.1), (0, .ref (B + 1)), (2, .int x2)]) cx.1 cx.2.1 dX9_chartFault_31 rfl hl (by decide) rfl (fun ls hl => ?_)
        refine lv_iload_n cx.1 cx.2.1 dX9_chartFault_32 rfl (lv_at hl 0 rfl) ?_
        refine lv_aload_n cx.1 cx.2.1 dX9_chartFault_33 rfl (lv_at hl 2 rfl) ?_
        refine r_getR cx wo ad_1.1 ad_1.2.1 ad_1.2.2 fiX9_10 (fn_1_0 wo.2.2.2.1) (by decide) dX9_chartFault_34 ?_
        refine r_getI cx wo ad_2.1 ad_2.2.1 ad_2.2.2 fiX9_107 dX9_chartFault_37 ?_
        refine lv_icmp_lt (tgt := 45) cx.1 cx.2.1 dX9_chartFault_40 (by decide) (fun c7 => ?_) (fun c7 => ?_)
        · rw [if_pos c7] at hf
          refine lv_aload_n cx.1 cx.2.1 dX9_chartFault_45 rfl (lv_at hl 2 rfl) ?_
          refine r_getR cx wo ad_1.1 ad_1.2.1 ad_1.2.2 fiX9_10 (fn_1_0 wo.2.2.2.1) (by decide) dX9_chartFault_46 ?_
          refine r_getR cx wo ad_2.1 ad_2.2.1 ad_2.2.2 fiX9_218 (fn_2_0 wo.2.2.2.1) (by decide) dX9_chartFault_49 ?_
          refine lv_iload_n cx.1 cx.2.1 dX9_chartFault_52 rfl (lv_at hl 0 rfl) ?_
          obtain ⟨g8, hf⟩ := gd_elim hf
          refine r_iald cx wo ad_3.1 ad_3.2.1 ad_3.2.2 (by rw [ln_3]; exact g8) dX9_chartFault_53 ?_
          refine lv_bipush (v := 59) cx.1 cx.2.1 dX9_chartFault_54 (by decide) ?_
          refine lv_icmp_eq (tgt := 61) cx.1 cx.2.1 dX9_chartFault_56 (by decide) (fun c9 => ?_) (fun c9 => ?_)
          · rw [if_pos c9] at hf
            obtain ⟨y10, e11, hf⟩ := lt_elim hf
            refine lv_iinc (v := y10) (lv' := [(1, .int y10), (3, .int q2.1), (0, .ref (B + 1)), (2, .int x2)]) cx.1 cx.2.1 dX9_chartFault_61 hl (k := 0) rfl (by rw [e11]; rfl) (by decide) rfl (fun ls hl => ?_)
            obtain ⟨y12, e13, hf⟩ := lt_elim hf
            refine lv_iinc (v := y12) (lv' := [(2, .int y12), (1, .int y10), (3, .int q2.1), (0, .ref (B + 1))]) cx.1 cx.2.1 dX9_chartFault_64 hl (k := 3) rfl (by rw [e13]; rfl) (by decide) rfl (fun ls hl => ?_)
            refine lv_goto (tgt := 4) cx.1 cx.2.1 dX9_chartFault_67 (by decide) ?_
            exact ih _ _ _ _ hf _ _ _ wo (lv_sub hl [3, 1, 0] rfl)
          · rw [if_neg c9] at hf
            refine lv_iload_n cx.1 cx.2.1 dX9_chartFault_59 rfl (lv_at hl 0 rfl) ?_
            have hq := Option.some.inj hf
            subst hq
            exact r_iret cx wo hr hlk dX9_chartFault_60
        · rw [if_neg c7] at hf
          refine lv_iconst (v := (-1)) cx.1 cx.2.1 dX9_chartFault_43 (by decide) ?_
          have hq := Option.some.inj hf
          subst hq
          exact r_iret cx wo hr hlk dX9_chartFault_44
      · rw [if_neg c4] at hf
        refine lv_iload_n cx.1 cx.2.1 dX9_chartFault_20 rfl (lv_at hl 0 rfl) ?_
        have hq := Option.some.inj hf
        subst hq
        exact r_iret cx wo hr hlk dX9_chartFault_21
set_option maxHeartbeats 1000000 in
set_option maxRecDepth 10000 in
theorem mX9_chartFault (l : Launch) {G : GG} {B : Nat}   {M : Mem} {q : Int32 × Mem} (hf : fX9_chartFault  M = some q) : Met l yX9_chartFault (wsG yX9_chartFault cX9_chartFault 4 (some .int)) (rmN (5)) (PcW Ph G B 205 M [.ref (B + 1)]) (QcI Ph G B 205 q.1 q.2) 0 0 (fr B) := by
  refine mk_Met (own := RX9) rfl rfl (Nat.le_of_ble_eq_true rfl) ?_
  intro p e s m below meth c ls cx hr hlk wo hl
  have hl : lv_has ls 4 [(0, .ref (B + 1))] := hl
  unfold fX9_chartFault at hf
  refine lv_iconst (v := 0) cx.1 cx.2.1 dX9_chartFault_0 (by decide) ?_
  refine lv_istore_n (lv' := [(1, .int 0), (0, .ref (B + 1))]) cx.1 cx.2.1 dX9_chartFault_1 rfl hl (by decide) rfl (fun ls hl => ?_)
  refine lv_iconst (v := 0) cx.1 cx.2.1 dX9_chartFault_2 (by decide) ?_
  refine lv_istore_n (lv' := [(2, .int 0), (1, .int 0), (0, .ref (B + 1))]) cx.1 cx.2.1 dX9_chartFault_3 rfl hl (by decide) rfl (fun ls hl => ?_)
  exact wX9_chartFault_4 cx hr hlk _ _ _ _ _ hf _ _ _ wo (lv_sub hl [2, 1, 0] rfl)
set_option maxHeartbeats 1000000 in
set_option maxRecDepth 10000 in
theorem wX9_chart_163 (cx : Cx p s m args c cX9_chart 6 RX9 G) (hr : meth.sig.returnType = (some .int)) (hlk : meth.locks = false) : ∀ (x2 : Int32) (x3 : Int32) (s0 : Int64)  (M : Mem) (q : Int32 × Mem), fX9_chart_163 x2 x3 s0 M = some q → ∀ (H : Heap) (locs : List Loc) (ls : Array Slot), Wo Ph G B 205 s M H locs → lv_has ls 6 [(2, .int x2), (3, .int x3)] → W p l e (rmN (6)) s m args below meth c H locs 0 0 (MQ below (QcI Ph G B 205 q.1 q.2) args s 0 0 (fr B)) (F0 m 163 ls [.long s0, .ref (B + 4)]) := by
  intro x2 x3 s0 M q hf H locs ls wo hl
  unfold fX9_chart_163 at hf
  refine lv_iload_n cx.1 cx.2.1 dX9_chart_163 rfl (lv_at hl 1 rfl) ?_
  refine lv_i2l (v := x3.toInt64) cx.1 cx.2.1 dX9_chart_164 rfl ?_
  obtain ⟨q30, e31, hf⟩ := bd_elim hf
  refine r_Vv (rest := []) cx wo (mX5_tellBoth l e31) cvX9_227 rfl ad_4.1 ad_4.2.1 ad_4.2.2 rfl rfl hl.1 rfl (Nat.le_of_ble_eq_true rfl) (hR_ok (by decide)) dX9_chart_165 (fun H locs wo => ?_)
  refine lv_iload_n cx.1 cx.2.1 dX9_chart_168 rfl (lv_at hl 0 rfl) ?_
  have hq := Option.some.inj hf
  subst hq
  exact r_iret cx wo hr hlk dX9_chart_169
set_option maxHeartbeats 1000000 in
set_option maxRecDepth 10000 in
theorem wX9_chart_141 (cx : Cx p s m args c cX9_chart 6 RX9 G) (hr : meth.sig.returnType = (some .int)) (hlk : meth.locks = false) : ∀ (x2 : Int32) (x3 : Int32) (x4 : Int32)  (M : Mem) (q : Int32 × Mem), fX9_chart_141 x2 x3 x4 M = some q → ∀ (H : Heap) (locs : List Loc) (ls : Array Slot), Wo Ph G B 205 s M H locs → lv_has ls 6 [(0, .ref (B + 1)), (2, .int x2), (3, .int x3), (4, .int x4)] → W p l e (rmN (6)) s m args below meth c H locs 0 0 (MQ below (QcI Ph G B 205 q.1 q.2) args s 0 0 (fr B)) (F0 m 141 ls []) := by
  intro x2 x3 x4 M q hf H locs ls wo hl
  unfold fX9_chart_141 at hf
  refine lv_aload_n cx.1 cx.2.1 dX9_chart_141 rfl (lv_at hl 0 rfl) ?_
  refine r_getR cx wo ad_1.1 ad_1.2.1 ad_1.2.2 fiX9_10 (fn_1_0 wo.2.2.2.1) (by decide) dX9_chart_142 ?_
  refine lv_iconst (v := 0) cx.1 cx.2.1 dX9_chart_145 (by decide) ?_
  obtain ⟨M27, e28, hf⟩ := lt_elim hf
  refine r_putI cx wo ad_2.1 ad_2.2.1 ad_2.2.2 fpX9_107 dX9_chart_146 (fun H locs wo => ?_)
  rw [← e28] at wo
  refine lv_aload_n cx.1 cx.2.1 dX9_chart_149 rfl (lv_at hl 0 rfl) ?_
  refine r_getR cx wo ad_1.1 ad_1.2.1 ad_1.2.2 fiX9_19 (fn_1_1 wo.2.2.2.1) (by decide) dX9_chart_150 ?_
  refine lv_iload cx.1 cx.2.1 dX9_chart_153 (lv_at hl 3 rfl) ?_
  refine lv_if_eq (tgt := 162) cx.1 cx.2.1 dX9_chart_155 (by decide) (fun c29 => ?_) (fun c29 => ?_)
  · rw [if_pos c29] at hf
    refine lv_lconst (v := 0) cx.1 cx.2.1 dX9_chart_162 (by decide) ?_
    exact wX9_chart_163 cx hr hlk _ _ _ _ _ hf _ _ _ wo (lv_sub hl [1, 2] rfl)
  · rw [if_neg c29] at hf
    refine lv_lconst (v := 1) cx.1 cx.2.1 dX9_chart_158 (by decide) ?_
    refine lv_goto (tgt := 163) cx.1 cx.2.1 dX9_chart_159 (by decide) ?_
    exact wX9_chart_163 cx hr hlk _ _ _ _ _ hf _ _ _ wo (lv_sub hl [1, 2] rfl)
set_option maxHeartbeats 1000000 in
set_option maxRecDepth 10000 in
theorem wX9_chart_42 (cx : Cx p s m args c cX9_chart 6 RX9 G) (hr : meth.sig.returnType = (some .int)) (hlk : meth.locks = false) : ∀ (n : Nat) (x2 : Int32) (x3 : Int32) (x4 : Int32) (x5 : Int32)  (M : Mem) (q : Int32 × Mem), fX9_chart_42 n x2 x3 x4 x5 M = some q → ∀ (H : Heap) (locs : List Loc) (ls : Array Slot), Wo Ph G B 205 s M H locs → lv_has ls 6 [(0, .ref (B + 1)), (2, .int x2), (3, .int x3), (4, .int x4), (5, .int x5)] → W p l e (rmN (6)) s m args below meth c H locs 0 0 (MQ below (QcI Ph G B 205 q.1 q.2) args s 0 0 (fr B)) (F0 m 42 ls []) := by
  intro n
  induction n with
  | zero =>
    intro x2 x3 x4 x5 M q hf H locs ls wo hl
    have hf : none = some q := hf
    cases hf
  | succ n ih =>
    intro x2 x3 x4 x5 M q hf H locs ls wo hl
    rw [fX9_chart_42] at hf
    refine lv_iload cx.1 cx.2.1 dX9_chart_42 (lv_at hl 4 rfl) ?_
    refine lv_aload_n cx.1 cx.2.1 dX9_chart_44 rfl (lv_at hl 0 rfl) ?_
    refine r_getR cx wo ad_1.1 ad_1.2.1 ad_1.2.2 fiX9_10 (fn_1_0 wo.2.2.2.1) (by decide) dX9_chart_45 ?_
    refine r_getI cx wo ad_2.1 ad_2.2.1 ad_2.2.2 fiX9_107 dX9_chart_48 ?_
    refine lv_icmp_gt (tgt := 141) cx.1 cx.2.1 dX9_chart_51 (by decide) (fun c8 => ?_) (fun c8 => ?_)
    · rw [if_pos c8] at hf
      exact wX9_chart_141 cx hr hlk _ _ _ _ _ hf _ _ _ wo (lv_sub hl [0, 1, 2, 3] rfl)
    · rw [if_neg c8] at hf
      refine lv_iload cx.1 cx.2.1 dX9_chart_54 (lv_at hl 3 rfl) ?_
      refine lv_if_eq (tgt := 141) cx.1 cx.2.1 dX9_chart_56 (by decide) (fun c9 => ?_) (fun c9 => ?_)
      · rw [if_pos c9] at hf
        exact wX9_chart_141 cx hr hlk _ _ _ _ _ hf _ _ _ wo (lv_sub hl [0, 1, 2, 3] rfl)
      · rw [if_neg c9] at hf
        refine lv_aload_n cx.1 cx.2.1 dX9_chart_59 rfl (lv_at hl 0 rfl) ?_
        refine lv_iload cx.1 cx.2.1 dX9_chart_60 (lv_at hl 4 rfl) ?_
        obtain ⟨q10, e11, hf⟩ := bd_elim hf
        refine r_Vi (rest := []) cx wo (mX9_readOrder l e11) cvX9_329 rfl ad_1.1 ad_1.2.1 ad_1.2.2 rfl rfl hl.1 rfl (Nat.le_of_ble_eq_true rfl) (hR_ok (by decide)) dX9_chart_62 (fun H locs wo => ?_)
        refine lv_pop cx.1 cx.2.1 dX9_chart_65 rfl ?_
        refine lv_aload_n cx.1 cx.2.1 dX9_chart_66 rfl (lv_at hl 0 rfl) ?_
        refine lv_aload_n cx.1 cx.2.1 dX9_chart_67 rfl (lv_at hl 0 rfl) ?_
        refine r_getR cx wo ad_1.1 ad_1.2.1 ad_1.2.2 fiX9_33 (fn_1_4 wo.2.2.2.1) (by decide) dX9_chart_68 ?_
        obtain ⟨q12, e13, hf⟩ := bd_elim hf
        refine r_Vv (rest := []) cx wo (mX9_relate l (by decide) e13) cvX9_316 rfl ad_1.1 ad_1.2.1 ad_1.2.2 rfl rfl hl.1 rfl (Nat.le_of_ble_eq_true rfl) (hR_ok (by decide)) dX9_chart_71 (fun H locs wo => ?_)
        refine lv_aload_n cx.1 cx.2.1 dX9_chart_74 rfl (lv_at hl 0 rfl) ?_
        refine r_getR cx wo ad_1.1 ad_1.2.1 ad_1.2.2 fiX9_86 (fn_1_14 wo.2.2.2.1) (by decide) dX9_chart_75 ?_
        refine lv_aload_n cx.1 cx.2.1 dX9_chart_78 rfl (lv_at hl 0 rfl) ?_
        refine r_getR cx wo ad_1.1 ad_1.2.1 ad_1.2.2 fiX9_26 (fn_1_2 wo.2.2.2.1) (by decide) dX9_chart_79 ?_
        refine r_getI cx wo ad_6.1 ad_6.2.1 ad_6.2.2 fiX9_282 dX9_chart_82 ?_
        obtain ⟨q14, e15, hf⟩ := bd_elim hf
        refine r_Si (rest := []) cx wo (mX1_isLawful l ad_143 e15) csX9_332 rfl hl.1 rfl (Nat.le_of_ble_eq_true rfl) (hR_ok (by decide)) dX9_chart_85 (fun H locs wo => ?_)
        refine lv_istore (lv' := [(4, .int q14.1), (0, .ref (B + 1)), (2, .int x2), (3, .int x3), (5, .int x5)]) cx.1 cx.2.1 dX9_chart_88 hl (by decide) rfl (fun ls hl => ?_)
        refine lv_iload cx.1 cx.2.1 dX9_chart_90 (lv_at hl 0 rfl) ?_
        refine lv_if_eq (tgt := 124) cx.1 cx.2.1 dX9_chart_92 (by decide) (fun c16 => ?_) (fun c16 => ?_)
        · rw [if_pos c16] at hf
          refine lv_iload cx.1 cx.2.1 dX9_chart_124 (lv_at hl 4 rfl) ?_
          refine lv_aload_n cx.1 cx.2.1 dX9_chart_126 rfl (lv_at hl 1 rfl) ?_
          refine r_getR cx wo ad_1.1 ad_1.2.1 ad_1.2.2 fiX9_26 (fn_1_2 wo.2.2.2.1) (by decide) dX9_chart_127 ?_
          refine r_getI cx wo ad_6.1 ad_6.2.1 ad_6.2.2 fiX9_282 dX9_chart_130 ?_
          refine lv_iconst (v := 1) cx.1 cx.2.1 dX9_chart_133 (by decide) ?_
          refine lv_iadd cx.1 cx.2.1 dX9_chart_134 ?_
          refine lv_iadd cx.1 cx.2.1 dX9_chart_135 ?_
          obtain ⟨y17, e18, hf⟩ := lt_elim hf
          refine r_topi e18 ?_
          refine lv_istore (lv' := [(5, .int y17), (4, .int q14.1), (0, .ref (B + 1)), (2, .int x2), (3, .int x3)]) cx.1 cx.2.1 dX9_chart_136 hl (by decide) rfl (fun ls hl => ?_)
          refine lv_goto (tgt := 42) cx.1 cx.2.1 dX9_chart_138 (by decide) ?_
          exact ih _ _ _ _ _ _ hf _ _ _ wo (lv_sub hl [2, 3, 4, 1, 0] rfl)
        · rw [if_neg c16] at hf
          refine lv_aload_n cx.1 cx.2.1 dX9_chart_95 rfl (lv_at hl 1 rfl) ?_
          refine r_getR cx wo ad_1.1 ad_1.2.1 ad_1.2.2 fiX9_86 (fn_1_14 wo.2.2.2.1) (by decide) dX9_chart_96 ?_
          refine lv_aload_n cx.1 cx.2.1 dX9_chart_99 rfl (lv_at hl 1 rfl) ?_
          refine r_getR cx wo ad_1.1 ad_1.2.1 ad_1.2.2 fiX9_26 (fn_1_2 wo.2.2.2.1) (by decide) dX9_chart_100 ?_
          refine r_getI cx wo ad_6.1 ad_6.2.1 ad_6.2.2 fiX9_282 dX9_chart_103 ?_
          obtain ⟨q19, e20, hf⟩ := bd_elim hf
          refine r_Si (rest := []) cx wo (mX1_pairsOf l ad_143 e20) csX9_336 rfl hl.1 rfl (Nat.le_of_ble_eq_true rfl) (hR_ok (by decide)) dX9_chart_106 (fun H locs wo => ?_)
          refine lv_istore_n (lv' := [(3, .int q19.1), (4, .int q14.1), (0, .ref (B + 1)), (2, .int x2), (5, .int x5)]) cx.1 cx.2.1 dX9_chart_109 rfl hl (by decide) rfl (fun ls hl => ?_)
          obtain ⟨y21, e22, hf⟩ := lt_elim hf
          refine lv_iinc (v := y21) (lv' := [(2, .int y21), (3, .int q19.1), (4, .int q14.1), (0, .ref (B + 1)), (5, .int x5)]) cx.1 cx.2.1 dX9_chart_110 hl (k := 3) rfl (by rw [e22]; rfl) (by decide) rfl (fun ls hl => ?_)
          refine lv_aload_n cx.1 cx.2.1 dX9_chart_113 rfl (lv_at hl 3 rfl) ?_
          refine r_getR cx wo ad_1.1 ad_1.2.1 ad_1.2.2 fiX9_33 (fn_1_4 wo.2.2.2.1) (by decide) dX9_chart_114 ?_
          refine lv_aload_n cx.1 cx.2.1 dX9_chart_117 rfl (lv_at hl 3 rfl) ?_
          refine r_getR cx wo ad_1.1 ad_1.2.1 ad_1.2.2 fiX9_82 (fn_1_13 wo.2.2.2.1) (by decide) dX9_chart_118 ?_
          obtain ⟨q23, e24, hf⟩ := bd_elim hf
          refine r_Vv (rest := []) cx wo (mX4_standAs l (by decide) ad_142 e24) cvX9_340 rfl ad_16.1 ad_16.2.1 ad_16.2.2 rfl rfl hl.1 rfl (Nat.le_of_ble_eq_true rfl) (hR_ok (by decide)) dX9_chart_121 (fun H locs wo => ?_)
          refine lv_iload cx.1 cx.2.1 dX9_chart_124 (lv_at hl 4 rfl) ?_
          refine lv_aload_n cx.1 cx.2.1 dX9_chart_126 rfl (lv_at hl 3 rfl) ?_
          refine r_getR cx wo ad_1.1 ad_1.2.1 ad_1.2.2 fiX9_26 (fn_1_2 wo.2.2.2.1) (by decide) dX9_chart_127 ?_
          refine r_getI cx wo ad_6.1 ad_6.2.1 ad_6.2.2 fiX9_282 dX9_chart_130 ?_
          refine lv_iconst (v := 1) cx.1 cx.2.1 dX9_chart_133 (by decide) ?_
          refine lv_iadd cx.1 cx.2.1 dX9_chart_134 ?_
          refine lv_iadd cx.1 cx.2.1 dX9_chart_135 ?_
          obtain ⟨y25, e26, hf⟩ := lt_elim hf
          refine r_topi e26 ?_
          refine lv_istore (lv' := [(5, .int y25), (2, .int y21), (3, .int q19.1), (4, .int q14.1), (0, .ref (B + 1))]) cx.1 cx.2.1 dX9_chart_136 hl (by decide) rfl (fun ls hl => ?_)
          refine lv_goto (tgt := 42) cx.1 cx.2.1 dX9_chart_138 (by decide) ?_
          exact ih _ _ _ _ _ _ hf _ _ _ wo (lv_sub hl [4, 1, 2, 3, 0] rfl)
set_option maxHeartbeats 1000000 in
set_option maxRecDepth 10000 in
theorem mX9_chart (l : Launch) {G : GG} {B : Nat}   {M : Mem} {q : Int32 × Mem} (hf : fX9_chart  M = some q) : Met l yX9_chart (wsG yX9_chart cX9_chart 6 (some .int)) (rmN (6)) (PcW Ph G B 205 M [.ref (B + 1)]) (QcI Ph G B 205 q.1 q.2) 0 0 (fr B) := by
  refine mk_Met (own := RX9) rfl rfl (Nat.le_of_ble_eq_true rfl) ?_
  intro p e s m below meth c ls cx hr hlk wo hl
  have hl : lv_has ls 6 [(0, .ref (B + 1))] := hl
  unfold fX9_chart at hf
  refine lv_aload_n cx.1 cx.2.1 dX9_chart_0 rfl (lv_at hl 0 rfl) ?_
  obtain ⟨q1, e2, hf⟩ := bd_elim hf
  refine r_Vi (rest := []) cx wo (mX9_chartFault l e2) cvX9_326 rfl ad_1.1 ad_1.2.1 ad_1.2.2 rfl rfl hl.1 rfl (Nat.le_of_ble_eq_true rfl) (hR_ok (by decide)) dX9_chart_1 (fun H locs wo => ?_)
  refine lv_istore_n (lv' := [(1, .int q1.1), (0, .ref (B + 1))]) cx.1 cx.2.1 dX9_chart_4 rfl hl (by decide) rfl (fun ls hl => ?_)
  refine lv_iload_n cx.1 cx.2.1 dX9_chart_5 rfl (lv_at hl 0 rfl) ?_
  refine lv_if_lt (tgt := 21) cx.1 cx.2.1 dX9_chart_6 (by decide) (fun c3 => ?_) (fun c3 => ?_)
  · rw [if_pos c3] at hf
    refine lv_aload_n cx.1 cx.2.1 dX9_chart_21 rfl (lv_at hl 1 rfl) ?_
    refine r_getR cx wo ad_1.1 ad_1.2.1 ad_1.2.2 fiX9_33 (fn_1_4 wo.2.2.2.1) (by decide) dX9_chart_22 ?_
    refine lv_aload_n cx.1 cx.2.1 dX9_chart_25 rfl (lv_at hl 1 rfl) ?_
    refine r_getR cx wo ad_1.1 ad_1.2.1 ad_1.2.2 fiX9_26 (fn_1_2 wo.2.2.2.1) (by decide) dX9_chart_26 ?_
    obtain ⟨q4, e5, hf⟩ := bd_elim hf
    refine r_Vv (rest := []) cx wo (mX4_copyFrom l (by decide) (by decide) e5) cvX9_190 rfl ad_16.1 ad_16.2.1 ad_16.2.2 rfl rfl hl.1 rfl (Nat.le_of_ble_eq_true rfl) (hR_ok (by decide)) dX9_chart_29 (fun H locs wo => ?_)
    refine lv_iconst (v := 0) cx.1 cx.2.1 dX9_chart_32 (by decide) ?_
    refine lv_istore_n (lv' := [(2, .int 0), (1, .int q1.1), (0, .ref (B + 1))]) cx.1 cx.2.1 dX9_chart_33 rfl hl (by decide) rfl (fun ls hl => ?_)
    refine lv_iconst (v := 0) cx.1 cx.2.1 dX9_chart_34 (by decide) ?_
    refine lv_istore_n (lv' := [(3, .int 0), (2, .int 0), (1, .int q1.1), (0, .ref (B + 1))]) cx.1 cx.2.1 dX9_chart_35 rfl hl (by decide) rfl (fun ls hl => ?_)
    refine lv_iconst (v := 1) cx.1 cx.2.1 dX9_chart_36 (by decide) ?_
    refine lv_istore (lv' := [(4, .int 1), (3, .int 0), (2, .int 0), (1, .int q1.1), (0, .ref (B + 1))]) cx.1 cx.2.1 dX9_chart_37 hl (by decide) rfl (fun ls hl => ?_)
    refine lv_iconst (v := 0) cx.1 cx.2.1 dX9_chart_39 (by decide) ?_
    refine lv_istore (lv' := [(5, .int 0), (4, .int 1), (3, .int 0), (2, .int 0), (1, .int q1.1), (0, .ref (B + 1))]) cx.1 cx.2.1 dX9_chart_40 hl (by decide) rfl (fun ls hl => ?_)
    exact wX9_chart_42 cx hr hlk _ _ _ _ _ _ _ hf _ _ _ wo (lv_sub hl [5, 3, 2, 1, 0] rfl)
  · rw [if_neg c3] at hf
    refine lv_aload_n cx.1 cx.2.1 dX9_chart_9 rfl (lv_at hl 1 rfl) ?_
    refine r_getR cx wo ad_1.1 ad_1.2.1 ad_1.2.2 fiX9_10 (fn_1_0 wo.2.2.2.1) (by decide) dX9_chart_10 ?_
    refine lv_iconst (v := 0) cx.1 cx.2.1 dX9_chart_13 (by decide) ?_
    obtain ⟨M6, e7, hf⟩ := lt_elim hf
    refine r_putI cx wo ad_2.1 ad_2.2.1 ad_2.2.2 fpX9_107 dX9_chart_14 (fun H locs wo => ?_)
    rw [← e7] at wo
    refine lv_iconst (v := (-1)) cx.1 cx.2.1 dX9_chart_17 (by decide) ?_
    refine lv_iload_n cx.1 cx.2.1 dX9_chart_18 rfl (lv_at hl 0 rfl) ?_
    refine lv_isub cx.1 cx.2.1 dX9_chart_19 ?_
    have hq := Option.some.inj hf
    subst hq
    exact r_iret cx wo hr hlk dX9_chart_20
set_option maxHeartbeats 1000000 in
set_option maxRecDepth 10000 in
theorem wX9_spurs_26 (cx : Cx p s m args c cX9_spurs 4 RX9 G) (hr : meth.sig.returnType = (some .int)) (hlk : meth.locks = false) : ∀ (n : Nat) (x1 : Int32) (x2 : Int32)  (M : Mem) (q : Int32 × Mem), fX9_spurs_26 n x1 x2 M = some q → ∀ (H : Heap) (locs : List Loc) (ls : Array Slot), Wo Ph G B 205 s M H locs → lv_has ls 4 [(0, .ref (B + 1)), (1, .int x1), (2, .int x2)] → W p l e (rmN (7)) s m args below meth c H locs 0 0 (MQ below (QcI Ph G B 205 q.1 q.2) args s 0 0 (fr B)) (F0 m 26 ls []) := by
  intro n
  induction n with
  | zero =>
    intro x1 x2 M q hf H locs ls wo hl
    have hf : none = some q := hf
    cases hf
  | succ n ih =>
    intro x1 x2 M q hf H locs ls wo hl
    rw [fX9_spurs_26] at hf
    refine lv_iload_n cx.1 cx.2.1 dX9_spurs_26 rfl (lv_at hl 2 rfl) ?_
    refine lv_bipush (v := 9) cx.1 cx.2.1 dX9_spurs_27 (by decide) ?_
    refine lv_icmp_gt (tgt := 96) cx.1 cx.2.1 dX9_spurs_29 (by decide) (fun c6 => ?_) (fun c6 => ?_)
    · rw [if_pos c6] at hf
      refine lv_bipush (v := (-2)) cx.1 cx.2.1 dX9_spurs_96 (by decide) ?_
      have hq := Option.some.inj hf
      subst hq
      exact r_iret cx wo hr hlk dX9_spurs_98
    · rw [if_neg c6] at hf
      refine lv_aload_n cx.1 cx.2.1 dX9_spurs_32 rfl (lv_at hl 0 rfl) ?_
      refine r_getR cx wo ad_1.1 ad_1.2.1 ad_1.2.2 fiX9_33 (fn_1_4 wo.2.2.2.1) (by decide) dX9_spurs_33 ?_
      refine r_getR cx wo ad_16.1 ad_16.2.1 ad_16.2.2 fiX9_145 (fn_16_1 wo.2.2.2.1) (by decide) dX9_spurs_36 ?_
      refine lv_iload_n cx.1 cx.2.1 dX9_spurs_39 rfl (lv_at hl 1 rfl) ?_
      refine lv_iload_n cx.1 cx.2.1 dX9_spurs_40 rfl (lv_at hl 2 rfl) ?_
      obtain ⟨g7, hf⟩ := gd_elim hf
      obtain ⟨M8, e9, hf⟩ := lt_elim hf
      refine r_iast cx wo ad_17.1 ad_17.2.1 ad_17.2.2 (by rw [ln_17]; exact g7) dX9_spurs_41 (fun H locs wo => ?_)
      rw [← e9] at wo
      refine lv_aload_n cx.1 cx.2.1 dX9_spurs_42 rfl (lv_at hl 0 rfl) ?_
      refine r_getR cx wo ad_1.1 ad_1.2.1 ad_1.2.2 fiX9_64 (fn_1_10 wo.2.2.2.1) (by decide) dX9_spurs_43 ?_
      refine lv_aload_n cx.1 cx.2.1 dX9_spurs_46 rfl (lv_at hl 0 rfl) ?_
      refine r_getR cx wo ad_1.1 ad_1.2.1 ad_1.2.2 fiX9_33 (fn_1_4 wo.2.2.2.1) (by decide) dX9_spurs_47 ?_
      refine lv_aload_n cx.1 cx.2.1 dX9_spurs_50 rfl (lv_at hl 0 rfl) ?_
      have hm10 : M8.2.2 1 17 ∈ rules := wo.2.2.2.1.2.2.1
      refine r_getR cx wo ad_1.1 ad_1.2.1 ad_1.2.2 fiX9_100 rfl (rul_ok _ hm10).1.1 dX9_spurs_51 ?_
      obtain ⟨q11, e12, hf⟩ := bd_elim hf
      refine r_Vv (rest := []) cx wo (mX3_run l (by decide) hm10 e12) cvX9_157 rfl ad_108.1 ad_108.2.1 ad_108.2.2 rfl rfl hl.1 rfl (Nat.le_of_ble_eq_true rfl) (hR_ok (by decide)) dX9_spurs_54 (fun H locs wo => ?_)
      refine lv_aload_n cx.1 cx.2.1 dX9_spurs_57 rfl (lv_at hl 0 rfl) ?_
      refine r_getR cx wo ad_1.1 ad_1.2.1 ad_1.2.2 fiX9_64 (fn_1_10 wo.2.2.2.1) (by decide) dX9_spurs_58 ?_
      refine lv_iload_n cx.1 cx.2.1 dX9_spurs_61 rfl (lv_at hl 1 rfl) ?_
      obtain ⟨q13, e14, hf⟩ := bd_elim hf
      refine r_Vi (rest := []) cx wo (mX3_touchedBy l e14) cvX9_161 rfl ad_108.1 ad_108.2.1 ad_108.2.2 rfl rfl hl.1 rfl (Nat.le_of_ble_eq_true rfl) (hR_ok (by decide)) dX9_spurs_62 (fun H locs wo => ?_)
      refine lv_istore_n (lv' := [(3, .int q13.1), (0, .ref (B + 1)), (1, .int x1), (2, .int x2)]) cx.1 cx.2.1 dX9_spurs_65 rfl hl (by decide) rfl (fun ls hl => ?_)
      refine lv_iload_n cx.1 cx.2.1 dX9_spurs_66 rfl (lv_at hl 0 rfl) ?_
      refine lv_if_lt (tgt := 90) cx.1 cx.2.1 dX9_spurs_67 (by decide) (fun c15 => ?_) (fun c15 => ?_)
      · rw [if_pos c15] at hf
        obtain ⟨y16, e17, hf⟩ := lt_elim hf
        refine lv_iinc (v := y16) (lv' := [(2, .int y16), (3, .int q13.1), (0, .ref (B + 1)), (1, .int x1)]) cx.1 cx.2.1 dX9_spurs_90 hl (k := 3) rfl (by rw [e17]; rfl) (by decide) rfl (fun ls hl => ?_)
        refine lv_goto (tgt := 26) cx.1 cx.2.1 dX9_spurs_93 (by decide) ?_
        exact ih _ _ _ _ hf _ _ _ wo (lv_sub hl [2, 3, 0] rfl)
      · rw [if_neg c15] at hf
        refine lv_aload_n cx.1 cx.2.1 dX9_spurs_70 rfl (lv_at hl 1 rfl) ?_
        refine r_getR cx wo ad_1.1 ad_1.2.1 ad_1.2.2 fiX9_19 (fn_1_1 wo.2.2.2.1) (by decide) dX9_spurs_71 ?_
        refine lv_iload_n cx.1 cx.2.1 dX9_spurs_74 rfl (lv_at hl 0 rfl) ?_
        refine lv_i2l (v := q13.1.toInt64) cx.1 cx.2.1 dX9_spurs_75 rfl ?_
        refine lv_aload_n cx.1 cx.2.1 dX9_spurs_76 rfl (lv_at hl 1 rfl) ?_
        refine r_getR cx wo ad_1.1 ad_1.2.1 ad_1.2.2 fiX9_64 (fn_1_10 wo.2.2.2.1) (by decide) dX9_spurs_77 ?_
        refine lv_iload_n cx.1 cx.2.1 dX9_spurs_80 rfl (lv_at hl 2 rfl) ?_
        obtain ⟨q18, e19, hf⟩ := bd_elim hf
        refine r_Vi (rest := [.long q13.1.toInt64, .ref (B + 4)]) cx wo (mX3_strokeBy l e19) cvX9_344 rfl ad_108.1 ad_108.2.1 ad_108.2.2 rfl rfl hl.1 rfl (Nat.le_of_ble_eq_true rfl) (hR_ok (by decide)) dX9_spurs_81 (fun H locs wo => ?_)
        refine lv_i2l (v := q18.1.toInt64) cx.1 cx.2.1 dX9_spurs_84 rfl ?_
        obtain ⟨q20, e21, hf⟩ := bd_elim hf
        refine r_Vv (rest := []) cx wo (mX5_tellBoth l e21) cvX9_227 rfl ad_4.1 ad_4.2.1 ad_4.2.2 rfl rfl hl.1 rfl (Nat.le_of_ble_eq_true rfl) (hR_ok (by decide)) dX9_spurs_85 (fun H locs wo => ?_)
        refine lv_iload_n cx.1 cx.2.1 dX9_spurs_88 rfl (lv_at hl 3 rfl) ?_
        have hq := Option.some.inj hf
        subst hq
        exact r_iret cx wo hr hlk dX9_spurs_89
set_option maxHeartbeats 1000000 in
set_option maxRecDepth 10000 in
theorem mX9_spurs (l : Launch) {G : GG} {B : Nat} {x1 : Int32}  {M : Mem} {q : Int32 × Mem} (hf : fX9_spurs x1 M = some q) : Met l yX9_spurs (wsG yX9_spurs cX9_spurs 4 (some .int)) (rmN (7)) (PcW Ph G B 205 M [.ref (B + 1), .int x1]) (QcI Ph G B 205 q.1 q.2) 0 0 (fr B) := by
  refine mk_Met (own := RX9) rfl rfl (Nat.le_of_ble_eq_true rfl) ?_
  intro p e s m below meth c ls cx hr hlk wo hl
  have hl : lv_has ls 4 [(0, .ref (B + 1)), (1, .int x1)] := hl
  unfold fX9_spurs at hf
  refine lv_aload_n cx.1 cx.2.1 dX9_spurs_0 rfl (lv_at hl 0 rfl) ?_
  refine r_getR cx wo ad_1.1 ad_1.2.1 ad_1.2.2 fiX9_26 (fn_1_2 wo.2.2.2.1) (by decide) dX9_spurs_1 ?_
  refine lv_iload_n cx.1 cx.2.1 dX9_spurs_4 rfl (lv_at hl 1 rfl) ?_
  obtain ⟨q1, e2, hf⟩ := bd_elim hf
  refine r_Vi (rest := []) cx wo (mX4_has l (by decide) e2) cvX9_134 rfl ad_6.1 ad_6.2.1 ad_6.2.2 rfl rfl hl.1 rfl (Nat.le_of_ble_eq_true rfl) (hR_ok (by decide)) dX9_spurs_5 (fun H locs wo => ?_)
  refine lv_if_ne (tgt := 13) cx.1 cx.2.1 dX9_spurs_8 (by decide) (fun c3 => ?_) (fun c3 => ?_)
  · rw [if_neg c3] at hf
    refine lv_aload_n cx.1 cx.2.1 dX9_spurs_13 rfl (lv_at hl 0 rfl) ?_
    refine r_getR cx wo ad_1.1 ad_1.2.1 ad_1.2.2 fiX9_33 (fn_1_4 wo.2.2.2.1) (by decide) dX9_spurs_14 ?_
    refine lv_aload_n cx.1 cx.2.1 dX9_spurs_17 rfl (lv_at hl 0 rfl) ?_
    refine r_getR cx wo ad_1.1 ad_1.2.1 ad_1.2.2 fiX9_26 (fn_1_2 wo.2.2.2.1) (by decide) dX9_spurs_18 ?_
    obtain ⟨q4, e5, hf⟩ := bd_elim hf
    refine r_Vv (rest := []) cx wo (mX4_copyFrom l (by decide) (by decide) e5) cvX9_190 rfl ad_16.1 ad_16.2.1 ad_16.2.2 rfl rfl hl.1 rfl (Nat.le_of_ble_eq_true rfl) (hR_ok (by decide)) dX9_spurs_21 (fun H locs wo => ?_)
    refine lv_iconst (v := 1) cx.1 cx.2.1 dX9_spurs_24 (by decide) ?_
    refine lv_istore_n (lv' := [(2, .int 1), (0, .ref (B + 1)), (1, .int x1)]) cx.1 cx.2.1 dX9_spurs_25 rfl hl (by decide) rfl (fun ls hl => ?_)
    exact wX9_spurs_26 cx hr hlk _ _ _ _ _ hf _ _ _ wo (lv_sub hl [1, 2, 0] rfl)
  · rw [if_pos c3] at hf
    refine lv_iconst (v := (-1)) cx.1 cx.2.1 dX9_spurs_11 (by decide) ?_
    have hq := Option.some.inj hf
    subst hq
    exact r_iret cx wo hr hlk dX9_spurs_12
set_option maxHeartbeats 1000000 in
set_option maxRecDepth 10000 in
theorem wX9_calm_18 (cx : Cx p s m args c cX9_calm 4 RX9 G) (hr : meth.sig.returnType = (some .int)) (hlk : meth.locks = false) : ∀ (n : Nat) (x1 : Int32) (x2 : Int32) (x3 : Int32)  (M : Mem) (q : Int32 × Mem), fX9_calm_18 n x1 x2 x3 M = some q → ∀ (H : Heap) (locs : List Loc) (ls : Array Slot), Wo Ph G B 205 s M H locs → lv_has ls 4 [(0, .ref (B + 1)), (1, .int x1), (2, .int x2), (3, .int x3)] → W p l e (rmN (7)) s m args below meth c H locs 0 0 (MQ below (QcI Ph G B 205 q.1 q.2) args s 0 0 (fr B)) (F0 m 18 ls []) := by
  intro n
  induction n with
  | zero =>
    intro x1 x2 x3 M q hf H locs ls wo hl
    have hf : none = some q := hf
    cases hf
  | succ n ih =>
    intro x1 x2 x3 M q hf H locs ls wo hl
    rw [fX9_calm_18] at hf
    refine lv_iload_n cx.1 cx.2.1 dX9_calm_18 rfl (lv_at hl 3 rfl) ?_
    refine lv_bipush (v := 30) cx.1 cx.2.1 dX9_calm_19 (by decide) ?_
    refine lv_icmp_gt (tgt := 76) cx.1 cx.2.1 dX9_calm_21 (by decide) (fun c3 => ?_) (fun c3 => ?_)
    · rw [if_pos c3] at hf
      refine lv_iload_n cx.1 cx.2.1 dX9_calm_76 rfl (lv_at hl 2 rfl) ?_
      refine lv_if_le (tgt := 89) cx.1 cx.2.1 dX9_calm_77 (by decide) (fun c4 => ?_) (fun c4 => ?_)
      · rw [if_pos c4] at hf
        refine lv_iload_n cx.1 cx.2.1 dX9_calm_89 rfl (lv_at hl 1 rfl) ?_
        have hq := Option.some.inj hf
        subst hq
        exact r_iret cx wo hr hlk dX9_calm_90
      · rw [if_neg c4] at hf
        refine lv_aload_n cx.1 cx.2.1 dX9_calm_80 rfl (lv_at hl 0 rfl) ?_
        refine r_getR cx wo ad_1.1 ad_1.2.1 ad_1.2.2 fiX9_19 (fn_1_1 wo.2.2.2.1) (by decide) dX9_calm_81 ?_
        refine lv_iload_n cx.1 cx.2.1 dX9_calm_84 rfl (lv_at hl 2 rfl) ?_
        refine lv_i2l (v := x2.toInt64) cx.1 cx.2.1 dX9_calm_85 rfl ?_
        obtain ⟨q5, e6, hf⟩ := bd_elim hf
        refine r_Vv (rest := []) cx wo (mX5_tell l e6) cvX9_186 rfl ad_4.1 ad_4.2.1 ad_4.2.2 rfl rfl hl.1 rfl (Nat.le_of_ble_eq_true rfl) (hR_ok (by decide)) dX9_calm_86 (fun H locs wo => ?_)
        refine lv_iload_n cx.1 cx.2.1 dX9_calm_89 rfl (lv_at hl 1 rfl) ?_
        have hq := Option.some.inj hf
        subst hq
        exact r_iret cx wo hr hlk dX9_calm_90
    · rw [if_neg c3] at hf
      refine lv_aload_n cx.1 cx.2.1 dX9_calm_24 rfl (lv_at hl 0 rfl) ?_
      refine r_getR cx wo ad_1.1 ad_1.2.1 ad_1.2.2 fiX9_33 (fn_1_4 wo.2.2.2.1) (by decide) dX9_calm_25 ?_
      refine lv_iload_n cx.1 cx.2.1 dX9_calm_28 rfl (lv_at hl 3 rfl) ?_
      obtain ⟨M7, e8, hf⟩ := lt_elim hf
      refine r_putI cx wo ad_16.1 ad_16.2.1 ad_16.2.2 fpX9_347 dX9_calm_29 (fun H locs wo => ?_)
      rw [← e8] at wo
      refine lv_aload_n cx.1 cx.2.1 dX9_calm_32 rfl (lv_at hl 0 rfl) ?_
      refine r_getR cx wo ad_1.1 ad_1.2.1 ad_1.2.2 fiX9_64 (fn_1_10 wo.2.2.2.1) (by decide) dX9_calm_33 ?_
      refine lv_aload_n cx.1 cx.2.1 dX9_calm_36 rfl (lv_at hl 0 rfl) ?_
      refine r_getR cx wo ad_1.1 ad_1.2.1 ad_1.2.2 fiX9_33 (fn_1_4 wo.2.2.2.1) (by decide) dX9_calm_37 ?_
      refine lv_aload_n cx.1 cx.2.1 dX9_calm_40 rfl (lv_at hl 0 rfl) ?_
      have hm9 : M7.2.2 1 17 ∈ rules := wo.2.2.2.1.2.2.1
      refine r_getR cx wo ad_1.1 ad_1.2.1 ad_1.2.2 fiX9_100 rfl (rul_ok _ hm9).1.1 dX9_calm_41 ?_
      obtain ⟨q10, e11, hf⟩ := bd_elim hf
      refine r_Vv (rest := []) cx wo (mX3_run l (by decide) hm9 e11) cvX9_157 rfl ad_108.1 ad_108.2.1 ad_108.2.2 rfl rfl hl.1 rfl (Nat.le_of_ble_eq_true rfl) (hR_ok (by decide)) dX9_calm_44 (fun H locs wo => ?_)
      refine lv_aload_n cx.1 cx.2.1 dX9_calm_47 rfl (lv_at hl 0 rfl) ?_
      refine r_getR cx wo ad_1.1 ad_1.2.1 ad_1.2.2 fiX9_64 (fn_1_10 wo.2.2.2.1) (by decide) dX9_calm_48 ?_
      refine r_getI cx wo ad_108.1 ad_108.2.1 ad_108.2.2 fiX9_236 dX9_calm_51 ?_
      refine lv_if_ne (tgt := 70) cx.1 cx.2.1 dX9_calm_54 (by decide) (fun c12 => ?_) (fun c12 => ?_)
      · rw [if_neg c12] at hf
        obtain ⟨y13, e14, hf⟩ := lt_elim hf
        refine lv_iinc (v := y13) (lv' := [(3, .int y13), (0, .ref (B + 1)), (1, .int x1), (2, .int x2)]) cx.1 cx.2.1 dX9_calm_70 hl (k := 3) rfl (by rw [e14]; rfl) (by decide) rfl (fun ls hl => ?_)
        refine lv_goto (tgt := 18) cx.1 cx.2.1 dX9_calm_73 (by decide) ?_
        exact ih _ _ _ _ _ hf _ _ _ wo (lv_sub hl [1, 2, 3, 0] rfl)
      · rw [if_pos c12] at hf
        refine lv_iload_n cx.1 cx.2.1 dX9_calm_57 rfl (lv_at hl 2 rfl) ?_
        refine lv_if_ne (tgt := 65) cx.1 cx.2.1 dX9_calm_58 (by decide) (fun c15 => ?_) (fun c15 => ?_)
        · rw [if_neg c15] at hf
          refine lv_iload_n cx.1 cx.2.1 dX9_calm_65 rfl (lv_at hl 1 rfl) ?_
          refine lv_istore_n (lv' := [(1, .int x1), (0, .ref (B + 1)), (2, .int x2), (3, .int x3)]) cx.1 cx.2.1 dX9_calm_66 rfl hl (by decide) rfl (fun ls hl => ?_)
          obtain ⟨y16, e17, hf⟩ := lt_elim hf
          refine lv_iinc (v := y16) (lv' := [(2, .int y16), (1, .int x1), (0, .ref (B + 1)), (3, .int x3)]) cx.1 cx.2.1 dX9_calm_67 hl (k := 2) rfl (by rw [e17]; rfl) (by decide) rfl (fun ls hl => ?_)
          obtain ⟨y18, e19, hf⟩ := lt_elim hf
          refine lv_iinc (v := y18) (lv' := [(3, .int y18), (2, .int y16), (1, .int x1), (0, .ref (B + 1))]) cx.1 cx.2.1 dX9_calm_70 hl (k := 3) rfl (by rw [e19]; rfl) (by decide) rfl (fun ls hl => ?_)
          refine lv_goto (tgt := 18) cx.1 cx.2.1 dX9_calm_73 (by decide) ?_
          exact ih _ _ _ _ _ hf _ _ _ wo (lv_sub hl [3, 2, 1, 0] rfl)
        · rw [if_pos c15] at hf
          refine lv_iload_n cx.1 cx.2.1 dX9_calm_61 rfl (lv_at hl 3 rfl) ?_
          refine lv_goto (tgt := 66) cx.1 cx.2.1 dX9_calm_62 (by decide) ?_
          refine lv_istore_n (lv' := [(1, .int x3), (0, .ref (B + 1)), (2, .int x2), (3, .int x3)]) cx.1 cx.2.1 dX9_calm_66 rfl hl (by decide) rfl (fun ls hl => ?_)
          obtain ⟨y20, e21, hf⟩ := lt_elim hf
          refine lv_iinc (v := y20) (lv' := [(2, .int y20), (1, .int x3), (0, .ref (B + 1)), (3, .int x3)]) cx.1 cx.2.1 dX9_calm_67 hl (k := 2) rfl (by rw [e21]; rfl) (by decide) rfl (fun ls hl => ?_)
          obtain ⟨y22, e23, hf⟩ := lt_elim hf
          refine lv_iinc (v := y22) (lv' := [(3, .int y22), (2, .int y20), (1, .int x3), (0, .ref (B + 1))]) cx.1 cx.2.1 dX9_calm_70 hl (k := 3) rfl (by rw [e23]; rfl) (by decide) rfl (fun ls hl => ?_)
          refine lv_goto (tgt := 18) cx.1 cx.2.1 dX9_calm_73 (by decide) ?_
          exact ih _ _ _ _ _ hf _ _ _ wo (lv_sub hl [3, 2, 1, 0] rfl)
set_option maxHeartbeats 1000000 in
set_option maxRecDepth 10000 in
theorem mX9_calm (l : Launch) {G : GG} {B : Nat}   {M : Mem} {q : Int32 × Mem} (hf : fX9_calm  M = some q) : Met l yX9_calm (wsG yX9_calm cX9_calm 4 (some .int)) (rmN (7)) (PcW Ph G B 205 M [.ref (B + 1)]) (QcI Ph G B 205 q.1 q.2) 0 0 (fr B) := by
  refine mk_Met (own := RX9) rfl rfl (Nat.le_of_ble_eq_true rfl) ?_
  intro p e s m below meth c ls cx hr hlk wo hl
  have hl : lv_has ls 4 [(0, .ref (B + 1))] := hl
  unfold fX9_calm at hf
  refine lv_aload_n cx.1 cx.2.1 dX9_calm_0 rfl (lv_at hl 0 rfl) ?_
  refine r_getR cx wo ad_1.1 ad_1.2.1 ad_1.2.2 fiX9_33 (fn_1_4 wo.2.2.2.1) (by decide) dX9_calm_1 ?_
  refine lv_aload_n cx.1 cx.2.1 dX9_calm_4 rfl (lv_at hl 0 rfl) ?_
  refine r_getR cx wo ad_1.1 ad_1.2.1 ad_1.2.2 fiX9_26 (fn_1_2 wo.2.2.2.1) (by decide) dX9_calm_5 ?_
  obtain ⟨q1, e2, hf⟩ := bd_elim hf
  refine r_Vv (rest := []) cx wo (mX4_copyFrom l (by decide) (by decide) e2) cvX9_190 rfl ad_16.1 ad_16.2.1 ad_16.2.2 rfl rfl hl.1 rfl (Nat.le_of_ble_eq_true rfl) (hR_ok (by decide)) dX9_calm_8 (fun H locs wo => ?_)
  refine lv_bipush (v := (-2)) cx.1 cx.2.1 dX9_calm_11 (by decide) ?_
  refine lv_istore_n (lv' := [(1, .int (-2)), (0, .ref (B + 1))]) cx.1 cx.2.1 dX9_calm_13 rfl hl (by decide) rfl (fun ls hl => ?_)
  refine lv_iconst (v := 0) cx.1 cx.2.1 dX9_calm_14 (by decide) ?_
  refine lv_istore_n (lv' := [(2, .int 0), (1, .int (-2)), (0, .ref (B + 1))]) cx.1 cx.2.1 dX9_calm_15 rfl hl (by decide) rfl (fun ls hl => ?_)
  refine lv_iconst (v := 1) cx.1 cx.2.1 dX9_calm_16 (by decide) ?_
  refine lv_istore_n (lv' := [(3, .int 1), (2, .int 0), (1, .int (-2)), (0, .ref (B + 1))]) cx.1 cx.2.1 dX9_calm_17 rfl hl (by decide) rfl (fun ls hl => ?_)
  exact wX9_calm_18 cx hr hlk _ _ _ _ _ _ hf _ _ _ wo (lv_sub hl [3, 2, 1, 0] rfl)
set_option maxHeartbeats 1000000 in
set_option maxRecDepth 10000 in
theorem wX9_differ_106 (cx : Cx p s m args c cX9_differ 5 RX9 G) (hr : meth.sig.returnType = (some .int)) (hlk : meth.locks = false) {k64 : Int32 → Int32 → Int32 → Mem → Option (Int32 × Mem)} (hk64 : ∀ (x1 : Int32) (x2 : Int32) (x3 : Int32)  (M : Mem) (q : Int32 × Mem), k64 x1 x2 x3 M = some q → ∀ (H : Heap) (locs : List Loc) (ls : Array Slot), Wo Ph G B 205 s M H locs → lv_has ls 5 [(0, .ref (B + 1)), (1, .int x1), (2, .int x2), (3, .int x3)] → W p l e (rmN (8)) s m args below meth c H locs 0 0 (MQ below (QcI Ph G B 205 q.1 q.2) args s 0 0 (fr B)) (F0 m 64 ls [])) : ∀ (n : Nat) (x1 : Int32) (x2 : Int32) (x3 : Int32) (x4 : Int32)  (M : Mem) (q : Int32 × Mem), fX9_differ_106 k64 n x1 x2 x3 x4 M = some q → ∀ (H : Heap) (locs : List Loc) (ls : Array Slot), Wo Ph G B 205 s M H locs → lv_has ls 5 [(0, .ref (B + 1)), (1, .int x1), (2, .int x2), (3, .int x3), (4, .int x4)] → W p l e (rmN (8)) s m args below meth c H locs 0 0 (MQ below (QcI Ph G B 205 q.1 q.2) args s 0 0 (fr B)) (F0 m 106 ls []) := by
  intro n
  induction n with
  | zero =>
    intro x1 x2 x3 x4 M q hf H locs ls wo hl
    have hf : none = some q := hf
    cases hf
  | succ n ih =>
    intro x1 x2 x3 x4 M q hf H locs ls wo hl
    rw [fX9_differ_106] at hf
    refine lv_iload cx.1 cx.2.1 dX9_differ_106 (lv_at hl 4 rfl) ?_
    refine lv_aload_n cx.1 cx.2.1 dX9_differ_108 rfl (lv_at hl 0 rfl) ?_
    refine r_getR cx wo ad_1.1 ad_1.2.1 ad_1.2.2 fiX9_26 (fn_1_2 wo.2.2.2.1) (by decide) dX9_differ_109 ?_
    refine r_getI cx wo ad_6.1 ad_6.2.1 ad_6.2.2 fiX9_282 dX9_differ_112 ?_
    refine lv_icmp_ge (tgt := 188) cx.1 cx.2.1 dX9_differ_115 (by decide) (fun c21 => ?_) (fun c21 => ?_)
    · rw [if_pos c21] at hf
      obtain ⟨y22, e23, hf⟩ := lt_elim hf
      refine lv_iinc (v := y22) (lv' := [(3, .int y22), (0, .ref (B + 1)), (1, .int x1), (2, .int x2), (4, .int x4)]) cx.1 cx.2.1 dX9_differ_188 hl (k := 3) rfl (by rw [e23]; rfl) (by decide) rfl (fun ls hl => ?_)
      refine lv_goto (tgt := 64) cx.1 cx.2.1 dX9_differ_191 (by decide) ?_
      exact hk64 _ _ _ _ _ hf _ _ _ wo (lv_sub hl [1, 2, 3, 0] rfl)
    · rw [if_neg c21] at hf
      refine lv_aload_n cx.1 cx.2.1 dX9_differ_118 rfl (lv_at hl 0 rfl) ?_
      refine r_getR cx wo ad_1.1 ad_1.2.1 ad_1.2.2 fiX9_33 (fn_1_4 wo.2.2.2.1) (by decide) dX9_differ_119 ?_
      refine r_getR cx wo ad_16.1 ad_16.2.1 ad_16.2.2 fiX9_350 (fn_16_4 wo.2.2.2.1) (by decide) dX9_differ_122 ?_
      refine lv_iload cx.1 cx.2.1 dX9_differ_125 (lv_at hl 4 rfl) ?_
      obtain ⟨g24, hf⟩ := gd_elim hf
      refine r_iald cx wo ad_20.1 ad_20.2.1 ad_20.2.2 (by rw [ln_20]; exact g24) dX9_differ_127 ?_
      refine lv_aload_n cx.1 cx.2.1 dX9_differ_128 rfl (lv_at hl 0 rfl) ?_
      refine r_getR cx wo ad_1.1 ad_1.2.1 ad_1.2.2 fiX9_36 (fn_1_5 wo.2.2.2.1) (by decide) dX9_differ_129 ?_
      refine r_getR cx wo ad_21.1 ad_21.2.1 ad_21.2.2 fiX9_350 (fn_21_4 wo.2.2.2.1) (by decide) dX9_differ_132 ?_
      refine lv_iload cx.1 cx.2.1 dX9_differ_135 (lv_at hl 4 rfl) ?_
      obtain ⟨g25, hf⟩ := gd_elim hf
      refine r_iald cx wo ad_25.1 ad_25.2.1 ad_25.2.2 (by rw [ln_25]; exact g25) dX9_differ_137 ?_
      refine lv_icmp_eq (tgt := 182) cx.1 cx.2.1 dX9_differ_138 (by decide) (fun c26 => ?_) (fun c26 => ?_)
      · rw [if_pos c26] at hf
        obtain ⟨y27, e28, hf⟩ := lt_elim hf
        refine lv_iinc (v := y27) (lv' := [(4, .int y27), (0, .ref (B + 1)), (1, .int x1), (2, .int x2), (3, .int x3)]) cx.1 cx.2.1 dX9_differ_182 hl (k := 4) rfl (by rw [e28]; rfl) (by decide) rfl (fun ls hl => ?_)
        refine lv_goto (tgt := 106) cx.1 cx.2.1 dX9_differ_185 (by decide) ?_
        exact ih _ _ _ _ _ _ hf _ _ _ wo (lv_sub hl [1, 2, 3, 4, 0] rfl)
      · rw [if_neg c26] at hf
        refine lv_aload_n cx.1 cx.2.1 dX9_differ_141 rfl (lv_at hl 0 rfl) ?_
        refine r_getR cx wo ad_1.1 ad_1.2.1 ad_1.2.2 fiX9_19 (fn_1_1 wo.2.2.2.1) (by decide) dX9_differ_142 ?_
        refine lv_iload cx.1 cx.2.1 dX9_differ_145 (lv_at hl 4 rfl) ?_
        refine lv_i2l (v := x4.toInt64) cx.1 cx.2.1 dX9_differ_147 rfl ?_
        refine lv_aload_n cx.1 cx.2.1 dX9_differ_148 rfl (lv_at hl 0 rfl) ?_
        refine r_getR cx wo ad_1.1 ad_1.2.1 ad_1.2.2 fiX9_33 (fn_1_4 wo.2.2.2.1) (by decide) dX9_differ_149 ?_
        refine r_getR cx wo ad_16.1 ad_16.2.1 ad_16.2.2 fiX9_350 (fn_16_4 wo.2.2.2.1) (by decide) dX9_differ_152 ?_
        refine lv_iload cx.1 cx.2.1 dX9_differ_155 (lv_at hl 4 rfl) ?_
        obtain ⟨g29, hf⟩ := gd_elim hf
        refine r_iald cx wo ad_20.1 ad_20.2.1 ad_20.2.2 (by rw [ln_20]; exact g29) dX9_differ_157 ?_
        refine lv_i2l (v := (M.1 20 (ix x4)).toInt64) cx.1 cx.2.1 dX9_differ_158 rfl ?_
        obtain ⟨q30, e31, hf⟩ := bd_elim hf
        refine r_Vv (rest := []) cx wo (mX5_tellBoth l e31) cvX9_227 rfl ad_4.1 ad_4.2.1 ad_4.2.2 rfl rfl hl.1 rfl (Nat.le_of_ble_eq_true rfl) (hR_ok (by decide)) dX9_differ_159 (fun H locs wo => ?_)
        refine lv_aload_n cx.1 cx.2.1 dX9_differ_162 rfl (lv_at hl 0 rfl) ?_
        refine r_getR cx wo ad_1.1 ad_1.2.1 ad_1.2.2 fiX9_19 (fn_1_1 wo.2.2.2.1) (by decide) dX9_differ_163 ?_
        refine lv_aload_n cx.1 cx.2.1 dX9_differ_166 rfl (lv_at hl 0 rfl) ?_
        refine r_getR cx wo ad_1.1 ad_1.2.1 ad_1.2.2 fiX9_36 (fn_1_5 wo.2.2.2.1) (by decide) dX9_differ_167 ?_
        refine r_getR cx wo ad_21.1 ad_21.2.1 ad_21.2.2 fiX9_350 (fn_21_4 wo.2.2.2.1) (by decide) dX9_differ_170 ?_
        refine lv_iload cx.1 cx.2.1 dX9_differ_173 (lv_at hl 4 rfl) ?_
        obtain ⟨g32, hf⟩ := gd_elim hf
        refine r_iald cx wo ad_25.1 ad_25.2.1 ad_25.2.2 (by rw [ln_25]; exact g32) dX9_differ_175 ?_
        refine lv_i2l (v := (q30.1 25 (ix x4)).toInt64) cx.1 cx.2.1 dX9_differ_176 rfl ?_
        obtain ⟨q33, e34, hf⟩ := bd_elim hf
        refine r_Vv (rest := []) cx wo (mX5_add l e34) cvX9_242 rfl ad_4.1 ad_4.2.1 ad_4.2.2 rfl rfl hl.1 rfl (Nat.le_of_ble_eq_true rfl) (hR_ok (by decide)) dX9_differ_177 (fun H locs wo => ?_)
        refine lv_iload_n cx.1 cx.2.1 dX9_differ_180 rfl (lv_at hl 3 rfl) ?_
        have hq := Option.some.inj hf
        subst hq
        exact r_iret cx wo hr hlk dX9_differ_181
set_option maxHeartbeats 1000000 in
set_option maxRecDepth 10000 in
theorem wX9_differ_64 (cx : Cx p s m args c cX9_differ 5 RX9 G) (hr : meth.sig.returnType = (some .int)) (hlk : meth.locks = false) : ∀ (n : Nat) (x1 : Int32) (x2 : Int32) (x3 : Int32)  (M : Mem) (q : Int32 × Mem), fX9_differ_64 n x1 x2 x3 M = some q → ∀ (H : Heap) (locs : List Loc) (ls : Array Slot), Wo Ph G B 205 s M H locs → lv_has ls 5 [(0, .ref (B + 1)), (1, .int x1), (2, .int x2), (3, .int x3)] → W p l e (rmN (8)) s m args below meth c H locs 0 0 (MQ below (QcI Ph G B 205 q.1 q.2) args s 0 0 (fr B)) (F0 m 64 ls []) := by
  intro n
  induction n with
  | zero =>
    intro x1 x2 x3 M q hf H locs ls wo hl
    have hf : none = some q := hf
    cases hf
  | succ n ih =>
    intro x1 x2 x3 M q hf H locs ls wo hl
    rw [fX9_differ_64] at hf
    refine lv_iload_n cx.1 cx.2.1 dX9_differ_64 rfl (lv_at hl 3 rfl) ?_
    refine lv_bipush (v := 60) cx.1 cx.2.1 dX9_differ_65 (by decide) ?_
    refine lv_icmp_gt (tgt := 194) cx.1 cx.2.1 dX9_differ_67 (by decide) (fun c13 => ?_) (fun c13 => ?_)
    · rw [if_pos c13] at hf
      refine lv_bipush (v := (-2)) cx.1 cx.2.1 dX9_differ_194 (by decide) ?_
      have hq := Option.some.inj hf
      subst hq
      exact r_iret cx wo hr hlk dX9_differ_196
    · rw [if_neg c13] at hf
      refine lv_iload_n cx.1 cx.2.1 dX9_differ_70 rfl (lv_at hl 1 rfl) ?_
      refine lv_iload_n cx.1 cx.2.1 dX9_differ_71 rfl (lv_at hl 2 rfl) ?_
      refine lv_icmp_eq (tgt := 194) cx.1 cx.2.1 dX9_differ_72 (by decide) (fun c14 => ?_) (fun c14 => ?_)
      · rw [if_pos c14] at hf
        refine lv_bipush (v := (-2)) cx.1 cx.2.1 dX9_differ_194 (by decide) ?_
        have hq := Option.some.inj hf
        subst hq
        exact r_iret cx wo hr hlk dX9_differ_196
      · rw [if_neg c14] at hf
        refine lv_aload_n cx.1 cx.2.1 dX9_differ_75 rfl (lv_at hl 0 rfl) ?_
        refine lv_aload_n cx.1 cx.2.1 dX9_differ_76 rfl (lv_at hl 0 rfl) ?_
        refine r_getR cx wo ad_1.1 ad_1.2.1 ad_1.2.2 fiX9_33 (fn_1_4 wo.2.2.2.1) (by decide) dX9_differ_77 ?_
        refine lv_aload_n cx.1 cx.2.1 dX9_differ_80 rfl (lv_at hl 0 rfl) ?_
        have hm15 : M.2.2 1 17 ∈ rules := wo.2.2.2.1.2.2.1
        refine r_getR cx wo ad_1.1 ad_1.2.1 ad_1.2.2 fiX9_100 rfl (rul_ok _ hm15).1.1 dX9_differ_81 ?_
        refine lv_iconst (v := 1) cx.1 cx.2.1 dX9_differ_84 (by decide) ?_
        obtain ⟨q16, e17, hf⟩ := bd_elim hf
        refine r_Vi (rest := []) cx wo (mX9_passDays l (by decide) hm15 e17) cvX9_182 rfl ad_1.1 ad_1.2.1 ad_1.2.2 rfl rfl hl.1 rfl (Nat.le_of_ble_eq_true rfl) (hR_ok (by decide)) dX9_differ_85 (fun H locs wo => ?_)
        refine lv_pop cx.1 cx.2.1 dX9_differ_88 rfl ?_
        refine lv_aload_n cx.1 cx.2.1 dX9_differ_89 rfl (lv_at hl 0 rfl) ?_
        refine lv_aload_n cx.1 cx.2.1 dX9_differ_90 rfl (lv_at hl 0 rfl) ?_
        refine r_getR cx wo ad_1.1 ad_1.2.1 ad_1.2.2 fiX9_36 (fn_1_5 wo.2.2.2.1) (by decide) dX9_differ_91 ?_
        refine lv_aload_n cx.1 cx.2.1 dX9_differ_94 rfl (lv_at hl 0 rfl) ?_
        have hm18 : q16.2.2.2 1 17 ∈ rules := wo.2.2.2.1.2.2.1
        refine r_getR cx wo ad_1.1 ad_1.2.1 ad_1.2.2 fiX9_100 rfl (rul_ok _ hm18).1.1 dX9_differ_95 ?_
        refine lv_iconst (v := 1) cx.1 cx.2.1 dX9_differ_98 (by decide) ?_
        obtain ⟨q19, e20, hf⟩ := bd_elim hf
        refine r_Vi (rest := []) cx wo (mX9_passDays l (by decide) hm18 e20) cvX9_182 rfl ad_1.1 ad_1.2.1 ad_1.2.2 rfl rfl hl.1 rfl (Nat.le_of_ble_eq_true rfl) (hR_ok (by decide)) dX9_differ_99 (fun H locs wo => ?_)
        refine lv_pop cx.1 cx.2.1 dX9_differ_102 rfl ?_
        refine lv_iconst (v := 0) cx.1 cx.2.1 dX9_differ_103 (by decide) ?_
        refine lv_istore (lv' := [(4, .int 0), (0, .ref (B + 1)), (1, .int x1), (2, .int x2), (3, .int x3)]) cx.1 cx.2.1 dX9_differ_104 hl (by decide) rfl (fun ls hl => ?_)
        exact wX9_differ_106 cx hr hlk ih _ _ _ _ _ _ _ hf _ _ _ wo (lv_sub hl [1, 2, 3, 4, 0] rfl)
set_option maxHeartbeats 1000000 in
set_option maxRecDepth 10000 in
theorem mX9_differ (l : Launch) {G : GG} {B : Nat} {x1 : Int32} {x2 : Int32}  {M : Mem} {q : Int32 × Mem} (hf : fX9_differ x1 x2 M = some q) : Met l yX9_differ (wsG yX9_differ cX9_differ 5 (some .int)) (rmN (8)) (PcW Ph G B 205 M [.ref (B + 1), .int x1, .int x2]) (QcI Ph G B 205 q.1 q.2) 0 0 (fr B) := by
  refine mk_Met (own := RX9) rfl rfl (Nat.le_of_ble_eq_true rfl) ?_
  intro p e s m below meth c ls cx hr hlk wo hl
  have hl : lv_has ls 5 [(0, .ref (B + 1)), (1, .int x1), (2, .int x2)] := hl
  unfold fX9_differ at hf
  refine lv_iload_n cx.1 cx.2.1 dX9_differ_0 rfl (lv_at hl 1 rfl) ?_
  refine lv_iconst (v := 1) cx.1 cx.2.1 dX9_differ_1 (by decide) ?_
  refine lv_icmp_lt (tgt := 22) cx.1 cx.2.1 dX9_differ_2 (by decide) (fun c1 => ?_) (fun c1 => ?_)
  · rw [if_pos c1] at hf
    refine lv_iconst (v := (-1)) cx.1 cx.2.1 dX9_differ_22 (by decide) ?_
    have hq := Option.some.inj hf
    subst hq
    exact r_iret cx wo hr hlk dX9_differ_23
  · rw [if_neg c1] at hf
    refine lv_iload_n cx.1 cx.2.1 dX9_differ_5 rfl (lv_at hl 1 rfl) ?_
    refine lv_bipush (v := 30) cx.1 cx.2.1 dX9_differ_6 (by decide) ?_
    refine lv_icmp_gt (tgt := 22) cx.1 cx.2.1 dX9_differ_8 (by decide) (fun c2 => ?_) (fun c2 => ?_)
    · rw [if_pos c2] at hf
      refine lv_iconst (v := (-1)) cx.1 cx.2.1 dX9_differ_22 (by decide) ?_
      have hq := Option.some.inj hf
      subst hq
      exact r_iret cx wo hr hlk dX9_differ_23
    · rw [if_neg c2] at hf
      refine lv_iload_n cx.1 cx.2.1 dX9_differ_11 rfl (lv_at hl 2 rfl) ?_
      refine lv_iconst (v := 1) cx.1 cx.2.1 dX9_differ_12 (by decide) ?_
      refine lv_icmp_lt (tgt := 22) cx.1 cx.2.1 dX9_differ_13 (by decide) (fun c3 => ?_) (fun c3 => ?_)
      · rw [if_pos c3] at hf
        refine lv_iconst (v := (-1)) cx.1 cx.2.1 dX9_differ_22 (by decide) ?_
        have hq := Option.some.inj hf
        subst hq
        exact r_iret cx wo hr hlk dX9_differ_23
      · rw [if_neg c3] at hf
        refine lv_iload_n cx.1 cx.2.1 dX9_differ_16 rfl (lv_at hl 2 rfl) ?_
        refine lv_bipush (v := 30) cx.1 cx.2.1 dX9_differ_17 (by decide) ?_
        refine lv_icmp_le (tgt := 24) cx.1 cx.2.1 dX9_differ_19 (by decide) (fun c4 => ?_) (fun c4 => ?_)
        · rw [if_pos c4] at hf
          refine lv_aload_n cx.1 cx.2.1 dX9_differ_24 rfl (lv_at hl 0 rfl) ?_
          refine r_getR cx wo ad_1.1 ad_1.2.1 ad_1.2.2 fiX9_33 (fn_1_4 wo.2.2.2.1) (by decide) dX9_differ_25 ?_
          refine lv_aload_n cx.1 cx.2.1 dX9_differ_28 rfl (lv_at hl 0 rfl) ?_
          refine r_getR cx wo ad_1.1 ad_1.2.1 ad_1.2.2 fiX9_26 (fn_1_2 wo.2.2.2.1) (by decide) dX9_differ_29 ?_
          obtain ⟨q5, e6, hf⟩ := bd_elim hf
          refine r_Vv (rest := []) cx wo (mX4_copyFrom l (by decide) (by decide) e6) cvX9_190 rfl ad_16.1 ad_16.2.1 ad_16.2.2 rfl rfl hl.1 rfl (Nat.le_of_ble_eq_true rfl) (hR_ok (by decide)) dX9_differ_32 (fun H locs wo => ?_)
          refine lv_aload_n cx.1 cx.2.1 dX9_differ_35 rfl (lv_at hl 0 rfl) ?_
          refine r_getR cx wo ad_1.1 ad_1.2.1 ad_1.2.2 fiX9_33 (fn_1_4 wo.2.2.2.1) (by decide) dX9_differ_36 ?_
          refine lv_iload_n cx.1 cx.2.1 dX9_differ_39 rfl (lv_at hl 1 rfl) ?_
          obtain ⟨M7, e8, hf⟩ := lt_elim hf
          refine r_putI cx wo ad_16.1 ad_16.2.1 ad_16.2.2 fpX9_347 dX9_differ_40 (fun H locs wo => ?_)
          rw [← e8] at wo
          refine lv_aload_n cx.1 cx.2.1 dX9_differ_43 rfl (lv_at hl 0 rfl) ?_
          refine r_getR cx wo ad_1.1 ad_1.2.1 ad_1.2.2 fiX9_36 (fn_1_5 wo.2.2.2.1) (by decide) dX9_differ_44 ?_
          refine lv_aload_n cx.1 cx.2.1 dX9_differ_47 rfl (lv_at hl 0 rfl) ?_
          refine r_getR cx wo ad_1.1 ad_1.2.1 ad_1.2.2 fiX9_26 (fn_1_2 wo.2.2.2.1) (by decide) dX9_differ_48 ?_
          obtain ⟨q9, e10, hf⟩ := bd_elim hf
          refine r_Vv (rest := []) cx wo (mX4_copyFrom l (by decide) (by decide) e10) cvX9_190 rfl ad_21.1 ad_21.2.1 ad_21.2.2 rfl rfl hl.1 rfl (Nat.le_of_ble_eq_true rfl) (hR_ok (by decide)) dX9_differ_51 (fun H locs wo => ?_)
          refine lv_aload_n cx.1 cx.2.1 dX9_differ_54 rfl (lv_at hl 0 rfl) ?_
          refine r_getR cx wo ad_1.1 ad_1.2.1 ad_1.2.2 fiX9_36 (fn_1_5 wo.2.2.2.1) (by decide) dX9_differ_55 ?_
          refine lv_iload_n cx.1 cx.2.1 dX9_differ_58 rfl (lv_at hl 2 rfl) ?_
          obtain ⟨M11, e12, hf⟩ := lt_elim hf
          refine r_putI cx wo ad_21.1 ad_21.2.1 ad_21.2.2 fpX9_347 dX9_differ_59 (fun H locs wo => ?_)
          rw [← e12] at wo
          refine lv_iconst (v := 1) cx.1 cx.2.1 dX9_differ_62 (by decide) ?_
          refine lv_istore_n (lv' := [(3, .int 1), (0, .ref (B + 1)), (1, .int x1), (2, .int x2)]) cx.1 cx.2.1 dX9_differ_63 rfl hl (by decide) rfl (fun ls hl => ?_)
          exact wX9_differ_64 cx hr hlk _ _ _ _ _ _ hf _ _ _ wo (lv_sub hl [1, 2, 3, 0] rfl)
        · rw [if_neg c4] at hf
          refine lv_iconst (v := (-1)) cx.1 cx.2.1 dX9_differ_22 (by decide) ?_
          have hq := Option.some.inj hf
          subst hq
          exact r_iret cx wo hr hlk dX9_differ_23
set_option maxHeartbeats 1000000 in
set_option maxRecDepth 10000 in
theorem mX9_placeIfRested (l : Launch) {G : GG} {B : Nat} {x1 : Int32} {x2 : Int32} {x3 : Int32}  {M : Mem} {q : Int32 × Mem} (hf : fX9_placeIfRested x1 x2 x3 M = some q) : Met l yX9_placeIfRested (wsG yX9_placeIfRested cX9_placeIfRested 4 (some .int)) (rmN (8)) (PcW Ph G B 205 M [.ref (B + 1), .int x1, .int x2, .int x3]) (QcI Ph G B 205 q.1 q.2) 0 0 (fr B) := by
  refine mk_Met (own := RX9) rfl rfl (Nat.le_of_ble_eq_true rfl) ?_
  intro p e s m below meth c ls cx hr hlk wo hl
  have hl : lv_has ls 4 [(0, .ref (B + 1)), (1, .int x1), (2, .int x2), (3, .int x3)] := hl
  unfold fX9_placeIfRested at hf
  refine lv_aload_n cx.1 cx.2.1 dX9_placeIfRested_0 rfl (lv_at hl 0 rfl) ?_
  refine r_getR cx wo ad_1.1 ad_1.2.1 ad_1.2.2 fiX9_33 (fn_1_4 wo.2.2.2.1) (by decide) dX9_placeIfRested_1 ?_
  refine lv_aload_n cx.1 cx.2.1 dX9_placeIfRested_4 rfl (lv_at hl 0 rfl) ?_
  refine r_getR cx wo ad_1.1 ad_1.2.1 ad_1.2.2 fiX9_26 (fn_1_2 wo.2.2.2.1) (by decide) dX9_placeIfRested_5 ?_
  obtain ⟨q1, e2, hf⟩ := bd_elim hf
  refine r_Vv (rest := []) cx wo (mX4_copyFrom l (by decide) (by decide) e2) cvX9_190 rfl ad_16.1 ad_16.2.1 ad_16.2.2 rfl rfl hl.1 rfl (Nat.le_of_ble_eq_true rfl) (hR_ok (by decide)) dX9_placeIfRested_8 (fun H locs wo => ?_)
  refine lv_aload_n cx.1 cx.2.1 dX9_placeIfRested_11 rfl (lv_at hl 0 rfl) ?_
  refine r_getR cx wo ad_1.1 ad_1.2.1 ad_1.2.2 fiX9_33 (fn_1_4 wo.2.2.2.1) (by decide) dX9_placeIfRested_12 ?_
  refine lv_iload_n cx.1 cx.2.1 dX9_placeIfRested_15 rfl (lv_at hl 1 rfl) ?_
  obtain ⟨q3, e4, hf⟩ := bd_elim hf
  refine r_Vi (rest := []) cx wo (mX4_restBoat l (by decide) e4) cvX9_199 rfl ad_16.1 ad_16.2.1 ad_16.2.2 rfl rfl hl.1 rfl (Nat.le_of_ble_eq_true rfl) (hR_ok (by decide)) dX9_placeIfRested_16 (fun H locs wo => ?_)
  refine lv_pop cx.1 cx.2.1 dX9_placeIfRested_19 rfl ?_
  refine lv_aload_n cx.1 cx.2.1 dX9_placeIfRested_20 rfl (lv_at hl 0 rfl) ?_
  refine lv_aload_n cx.1 cx.2.1 dX9_placeIfRested_21 rfl (lv_at hl 0 rfl) ?_
  refine r_getR cx wo ad_1.1 ad_1.2.1 ad_1.2.2 fiX9_33 (fn_1_4 wo.2.2.2.1) (by decide) dX9_placeIfRested_22 ?_
  refine lv_aload_n cx.1 cx.2.1 dX9_placeIfRested_25 rfl (lv_at hl 0 rfl) ?_
  have hm5 : q3.2.2.2 1 17 ∈ rules := wo.2.2.2.1.2.2.1
  refine r_getR cx wo ad_1.1 ad_1.2.1 ad_1.2.2 fiX9_100 rfl (rul_ok _ hm5).1.1 dX9_placeIfRested_26 ?_
  refine lv_iload_n cx.1 cx.2.1 dX9_placeIfRested_29 rfl (lv_at hl 3 rfl) ?_
  obtain ⟨q6, e7, hf⟩ := bd_elim hf
  refine r_Vi (rest := []) cx wo (mX9_passDays l (by decide) hm5 e7) cvX9_182 rfl ad_1.1 ad_1.2.1 ad_1.2.2 rfl rfl hl.1 rfl (Nat.le_of_ble_eq_true rfl) (hR_ok (by decide)) dX9_placeIfRested_30 (fun H locs wo => ?_)
  refine lv_pop cx.1 cx.2.1 dX9_placeIfRested_33 rfl ?_
  refine lv_aload_n cx.1 cx.2.1 dX9_placeIfRested_34 rfl (lv_at hl 0 rfl) ?_
  refine r_getR cx wo ad_1.1 ad_1.2.1 ad_1.2.2 fiX9_33 (fn_1_4 wo.2.2.2.1) (by decide) dX9_placeIfRested_35 ?_
  refine r_getR cx wo ad_16.1 ad_16.2.1 ad_16.2.2 fiX9_151 (fn_16_3 wo.2.2.2.1) (by decide) dX9_placeIfRested_38 ?_
  refine lv_iload_n cx.1 cx.2.1 dX9_placeIfRested_41 rfl (lv_at hl 2 rfl) ?_
  obtain ⟨g8, hf⟩ := gd_elim hf
  refine r_iald cx wo ad_19.1 ad_19.2.1 ad_19.2.2 (by rw [ln_19]; exact g8) dX9_placeIfRested_42 ?_
  have hq := Option.some.inj hf
  subst hq
  exact r_iret cx wo hr hlk dX9_placeIfRested_43
set_option maxHeartbeats 1000000 in
set_option maxRecDepth 10000 in
theorem wX9_helps_79 (cx : Cx p s m args c cX9_helps 8 RX9 G) (hr : meth.sig.returnType = (some .int)) (hlk : meth.locks = false) {k42 : Int32 → Int32 → Int32 → Int32 → Int32 → Int32 → Mem → Option (Int32 × Mem)} (hk42 : ∀ (x1 : Int32) (x2 : Int32) (x3 : Int32) (x4 : Int32) (x5 : Int32) (x6 : Int32)  (M : Mem) (q : Int32 × Mem), k42 x1 x2 x3 x4 x5 x6 M = some q → ∀ (H : Heap) (locs : List Loc) (ls : Array Slot), Wo Ph G B 205 s M H locs → lv_has ls 8 [(0, .ref (B + 1)), (1, .int x1), (2, .int x2), (3, .int x3), (4, .int x4), (5, .int x5), (6, .int x6)] → W p l e (rmN (9)) s m args below meth c H locs 0 0 (MQ below (QcI Ph G B 205 q.1 q.2) args s 0 0 (fr B)) (F0 m 42 ls [])) : ∀ (x1 : Int32) (x2 : Int32) (x3 : Int32) (x4 : Int32) (x5 : Int32) (x6 : Int32) (s0 : Int32)  (M : Mem) (q : Int32 × Mem), fX9_helps_79 k42 x1 x2 x3 x4 x5 x6 s0 M = some q → ∀ (H : Heap) (locs : List Loc) (ls : Array Slot), Wo Ph G B 205 s M H locs → lv_has ls 8 [(0, .ref (B + 1)), (1, .int x1), (2, .int x2), (3, .int x3), (4, .int x4), (5, .int x5), (6, .int x6)] → W p l e (rmN (9)) s m args below meth c H locs 0 0 (MQ below (QcI Ph G B 205 q.1 q.2) args s 0 0 (fr B)) (F0 m 79 ls [.int s0]) := by
  intro x1 x2 x3 x4 x5 x6 s0 M q hf H locs ls wo hl
  unfold fX9_helps_79 at hf
  refine lv_istore (lv' := [(7, .int s0), (0, .ref (B + 1)), (1, .int x1), (2, .int x2), (3, .int x3), (4, .int x4), (5, .int x5), (6, .int x6)]) cx.1 cx.2.1 dX9_helps_79 hl (by decide) rfl (fun ls hl => ?_)
  refine lv_iload cx.1 cx.2.1 dX9_helps_81 (lv_at hl 0 rfl) ?_
  refine lv_iload cx.1 cx.2.1 dX9_helps_83 (lv_at hl 5 rfl) ?_
  refine lv_icmp_ge (tgt := 96) cx.1 cx.2.1 dX9_helps_85 (by decide) (fun c15 => ?_) (fun c15 => ?_)
  · rw [if_pos c15] at hf
    obtain ⟨y16, e17, hf⟩ := lt_elim hf
    refine lv_iinc (v := y16) (lv' := [(6, .int y16), (7, .int s0), (0, .ref (B + 1)), (1, .int x1), (2, .int x2), (3, .int x3), (4, .int x4), (5, .int x5)]) cx.1 cx.2.1 dX9_helps_96 hl (k := 7) rfl (by rw [e17]; rfl) (by decide) rfl (fun ls hl => ?_)
    refine lv_goto (tgt := 42) cx.1 cx.2.1 dX9_helps_99 (by decide) ?_
    exact hk42 _ _ _ _ _ _ _ _ hf _ _ _ wo (lv_sub hl [2, 3, 4, 5, 6, 7, 0] rfl)
  · rw [if_neg c15] at hf
    refine lv_iload cx.1 cx.2.1 dX9_helps_88 (lv_at hl 0 rfl) ?_
    refine lv_istore (lv' := [(4, .int s0), (7, .int s0), (0, .ref (B + 1)), (1, .int x1), (2, .int x2), (3, .int x3), (5, .int x5), (6, .int x6)]) cx.1 cx.2.1 dX9_helps_90 hl (by decide) rfl (fun ls hl => ?_)
    refine lv_iload cx.1 cx.2.1 dX9_helps_92 (lv_at hl 7 rfl) ?_
    refine lv_istore (lv' := [(5, .int x6), (4, .int s0), (7, .int s0), (0, .ref (B + 1)), (1, .int x1), (2, .int x2), (3, .int x3), (6, .int x6)]) cx.1 cx.2.1 dX9_helps_94 hl (by decide) rfl (fun ls hl => ?_)
    obtain ⟨y18, e19, hf⟩ := lt_elim hf
    refine lv_iinc (v := y18) (lv' := [(6, .int y18), (5, .int x6), (4, .int s0), (7, .int s0), (0, .ref (B + 1)), (1, .int x1), (2, .int x2), (3, .int x3)]) cx.1 cx.2.1 dX9_helps_96 hl (k := 7) rfl (by rw [e19]; rfl) (by decide) rfl (fun ls hl => ?_)
    refine lv_goto (tgt := 42) cx.1 cx.2.1 dX9_helps_99 (by decide) ?_
    exact hk42 _ _ _ _ _ _ _ _ hf _ _ _ wo (lv_sub hl [4, 5, 6, 7, 2, 1, 0] rfl)
set_option maxHeartbeats 1000000 in
set_option maxRecDepth 10000 in
theorem wX9_helps_42 (cx : Cx p s m args c cX9_helps 8 RX9 G) (hr : meth.sig.returnType = (some .int)) (hlk : meth.locks = false) : ∀ (n : Nat) (x1 : Int32) (x2 : Int32) (x3 : Int32) (x4 : Int32) (x5 : Int32) (x6 : Int32)  (M : Mem) (q : Int32 × Mem), fX9_helps_42 n x1 x2 x3 x4 x5 x6 M = some q → ∀ (H : Heap) (locs : List Loc) (ls : Array Slot), Wo Ph G B 205 s M H locs → lv_has ls 8 [(0, .ref (B + 1)), (1, .int x1), (2, .int x2), (3, .int x3), (4, .int x4), (5, .int x5), (6, .int x6)] → W p l e (rmN (9)) s m args below meth c H locs 0 0 (MQ below (QcI Ph G B 205 q.1 q.2) args s 0 0 (fr B)) (F0 m 42 ls []) := by
  intro n
  induction n with
  | zero =>
    intro x1 x2 x3 x4 x5 x6 M q hf H locs ls wo hl
    have hf : none = some q := hf
    cases hf
  | succ n ih =>
    intro x1 x2 x3 x4 x5 x6 M q hf H locs ls wo hl
    rw [fX9_helps_42] at hf
    refine lv_iload cx.1 cx.2.1 dX9_helps_42 (lv_at hl 6 rfl) ?_
    refine lv_aload_n cx.1 cx.2.1 dX9_helps_44 rfl (lv_at hl 0 rfl) ?_
    refine r_getR cx wo ad_1.1 ad_1.2.1 ad_1.2.2 fiX9_26 (fn_1_2 wo.2.2.2.1) (by decide) dX9_helps_45 ?_
    refine r_getI cx wo ad_6.1 ad_6.2.1 ad_6.2.2 fiX9_282 dX9_helps_48 ?_
    refine lv_icmp_ge (tgt := 102) cx.1 cx.2.1 dX9_helps_51 (by decide) (fun c8 => ?_) (fun c8 => ?_)
    · rw [if_pos c8] at hf
      refine lv_aload_n cx.1 cx.2.1 dX9_helps_102 rfl (lv_at hl 0 rfl) ?_
      refine r_getR cx wo ad_1.1 ad_1.2.1 ad_1.2.2 fiX9_19 (fn_1_1 wo.2.2.2.1) (by decide) dX9_helps_103 ?_
      refine lv_iload cx.1 cx.2.1 dX9_helps_106 (lv_at hl 4 rfl) ?_
      refine lv_i2l (v := x4.toInt64) cx.1 cx.2.1 dX9_helps_108 rfl ?_
      refine lv_iload_n cx.1 cx.2.1 dX9_helps_109 rfl (lv_at hl 3 rfl) ?_
      refine lv_i2l (v := x3.toInt64) cx.1 cx.2.1 dX9_helps_110 rfl ?_
      obtain ⟨q9, e10, hf⟩ := bd_elim hf
      refine r_Vv (rest := []) cx wo (mX5_tellBoth l e10) cvX9_227 rfl ad_4.1 ad_4.2.1 ad_4.2.2 rfl rfl hl.1 rfl (Nat.le_of_ble_eq_true rfl) (hR_ok (by decide)) dX9_helps_111 (fun H locs wo => ?_)
      refine lv_iload cx.1 cx.2.1 dX9_helps_114 (lv_at hl 5 rfl) ?_
      have hq := Option.some.inj hf
      subst hq
      exact r_iret cx wo hr hlk dX9_helps_116
    · rw [if_neg c8] at hf
      refine lv_aload_n cx.1 cx.2.1 dX9_helps_54 rfl (lv_at hl 0 rfl) ?_
      refine r_getR cx wo ad_1.1 ad_1.2.1 ad_1.2.2 fiX9_26 (fn_1_2 wo.2.2.2.1) (by decide) dX9_helps_55 ?_
      refine r_getR cx wo ad_6.1 ad_6.2.1 ad_6.2.2 fiX9_148 (fn_6_2 wo.2.2.2.1) (by decide) dX9_helps_58 ?_
      refine lv_iload cx.1 cx.2.1 dX9_helps_61 (lv_at hl 6 rfl) ?_
      obtain ⟨g11, hf⟩ := gd_elim hf
      refine r_iald cx wo ad_8.1 ad_8.2.1 ad_8.2.2 (by rw [ln_8]; exact g11) dX9_helps_63 ?_
      refine lv_if_ne (tgt := 71) cx.1 cx.2.1 dX9_helps_64 (by decide) (fun c12 => ?_) (fun c12 => ?_)
      · rw [if_neg c12] at hf
        refine lv_aload_n cx.1 cx.2.1 dX9_helps_71 rfl (lv_at hl 0 rfl) ?_
        refine lv_iload cx.1 cx.2.1 dX9_helps_72 (lv_at hl 6 rfl) ?_
        refine lv_iload_n cx.1 cx.2.1 dX9_helps_74 rfl (lv_at hl 1 rfl) ?_
        refine lv_iload_n cx.1 cx.2.1 dX9_helps_75 rfl (lv_at hl 2 rfl) ?_
        obtain ⟨q13, e14, hf⟩ := bd_elim hf
        refine r_Vi (rest := []) cx wo (mX9_placeIfRested l e14) cvX9_351 rfl ad_1.1 ad_1.2.1 ad_1.2.2 rfl rfl hl.1 rfl (Nat.le_of_ble_eq_true rfl) (hR_ok (by decide)) dX9_helps_76 (fun H locs wo => ?_)
        exact wX9_helps_79 cx hr hlk ih _ _ _ _ _ _ _ _ _ hf _ _ _ wo (lv_sub hl [0, 1, 2, 3, 4, 5, 6] rfl)
      · rw [if_pos c12] at hf
        refine lv_iload_n cx.1 cx.2.1 dX9_helps_67 rfl (lv_at hl 3 rfl) ?_
        refine lv_goto (tgt := 79) cx.1 cx.2.1 dX9_helps_68 (by decide) ?_
        exact wX9_helps_79 cx hr hlk ih _ _ _ _ _ _ _ _ _ hf _ _ _ wo (lv_sub hl [0, 1, 2, 3, 4, 5, 6] rfl)
set_option maxHeartbeats 1000000 in
set_option maxRecDepth 10000 in
theorem mX9_helps (l : Launch) {G : GG} {B : Nat} {x1 : Int32} {x2 : Int32}  {M : Mem} {q : Int32 × Mem} (hf : fX9_helps x1 x2 M = some q) : Met l yX9_helps (wsG yX9_helps cX9_helps 8 (some .int)) (rmN (9)) (PcW Ph G B 205 M [.ref (B + 1), .int x1, .int x2]) (QcI Ph G B 205 q.1 q.2) 0 0 (fr B) := by
  refine mk_Met (own := RX9) rfl rfl (Nat.le_of_ble_eq_true rfl) ?_
  intro p e s m below meth c ls cx hr hlk wo hl
  have hl : lv_has ls 8 [(0, .ref (B + 1)), (1, .int x1), (2, .int x2)] := hl
  unfold fX9_helps at hf
  refine lv_aload_n cx.1 cx.2.1 dX9_helps_0 rfl (lv_at hl 0 rfl) ?_
  refine r_getR cx wo ad_1.1 ad_1.2.1 ad_1.2.2 fiX9_26 (fn_1_2 wo.2.2.2.1) (by decide) dX9_helps_1 ?_
  refine lv_iload_n cx.1 cx.2.1 dX9_helps_4 rfl (lv_at hl 1 rfl) ?_
  obtain ⟨q1, e2, hf⟩ := bd_elim hf
  refine r_Vi (rest := []) cx wo (mX4_has l (by decide) e2) cvX9_134 rfl ad_6.1 ad_6.2.1 ad_6.2.2 rfl rfl hl.1 rfl (Nat.le_of_ble_eq_true rfl) (hR_ok (by decide)) dX9_helps_5 (fun H locs wo => ?_)
  refine lv_if_eq (tgt := 22) cx.1 cx.2.1 dX9_helps_8 (by decide) (fun c3 => ?_) (fun c3 => ?_)
  · rw [if_pos c3] at hf
    refine lv_iconst (v := (-1)) cx.1 cx.2.1 dX9_helps_22 (by decide) ?_
    have hq := Option.some.inj hf
    subst hq
    exact r_iret cx wo hr hlk dX9_helps_23
  · rw [if_neg c3] at hf
    refine lv_iload_n cx.1 cx.2.1 dX9_helps_11 rfl (lv_at hl 2 rfl) ?_
    refine lv_iconst (v := 1) cx.1 cx.2.1 dX9_helps_12 (by decide) ?_
    refine lv_icmp_lt (tgt := 22) cx.1 cx.2.1 dX9_helps_13 (by decide) (fun c4 => ?_) (fun c4 => ?_)
    · rw [if_pos c4] at hf
      refine lv_iconst (v := (-1)) cx.1 cx.2.1 dX9_helps_22 (by decide) ?_
      have hq := Option.some.inj hf
      subst hq
      exact r_iret cx wo hr hlk dX9_helps_23
    · rw [if_neg c4] at hf
      refine lv_iload_n cx.1 cx.2.1 dX9_helps_16 rfl (lv_at hl 2 rfl) ?_
      refine lv_bipush (v := 30) cx.1 cx.2.1 dX9_helps_17 (by decide) ?_
      refine lv_icmp_le (tgt := 24) cx.1 cx.2.1 dX9_helps_19 (by decide) (fun c5 => ?_) (fun c5 => ?_)
      · rw [if_pos c5] at hf
        refine lv_aload_n cx.1 cx.2.1 dX9_helps_24 rfl (lv_at hl 0 rfl) ?_
        refine lv_iconst (v := (-1)) cx.1 cx.2.1 dX9_helps_25 (by decide) ?_
        refine lv_iload_n cx.1 cx.2.1 dX9_helps_26 rfl (lv_at hl 1 rfl) ?_
        refine lv_iload_n cx.1 cx.2.1 dX9_helps_27 rfl (lv_at hl 2 rfl) ?_
        obtain ⟨q6, e7, hf⟩ := bd_elim hf
        refine r_Vi (rest := []) cx wo (mX9_placeIfRested l e7) cvX9_351 rfl ad_1.1 ad_1.2.1 ad_1.2.2 rfl rfl hl.1 rfl (Nat.le_of_ble_eq_true rfl) (hR_ok (by decide)) dX9_helps_28 (fun H locs wo => ?_)
        refine lv_istore_n (lv' := [(3, .int q6.1), (0, .ref (B + 1)), (1, .int x1), (2, .int x2)]) cx.1 cx.2.1 dX9_helps_31 rfl hl (by decide) rfl (fun ls hl => ?_)
        refine lv_bipush (v := 6) cx.1 cx.2.1 dX9_helps_32 (by decide) ?_
        refine lv_istore (lv' := [(4, .int 6), (3, .int q6.1), (0, .ref (B + 1)), (1, .int x1), (2, .int x2)]) cx.1 cx.2.1 dX9_helps_34 hl (by decide) rfl (fun ls hl => ?_)
        refine lv_iconst (v := (-1)) cx.1 cx.2.1 dX9_helps_36 (by decide) ?_
        refine lv_istore (lv' := [(5, .int (-1)), (4, .int 6), (3, .int q6.1), (0, .ref (B + 1)), (1, .int x1), (2, .int x2)]) cx.1 cx.2.1 dX9_helps_37 hl (by decide) rfl (fun ls hl => ?_)
        refine lv_iconst (v := 0) cx.1 cx.2.1 dX9_helps_39 (by decide) ?_
        refine lv_istore (lv' := [(6, .int 0), (5, .int (-1)), (4, .int 6), (3, .int q6.1), (0, .ref (B + 1)), (1, .int x1), (2, .int x2)]) cx.1 cx.2.1 dX9_helps_40 hl (by decide) rfl (fun ls hl => ?_)
        exact wX9_helps_42 cx hr hlk _ _ _ _ _ _ _ _ _ hf _ _ _ wo (lv_sub hl [4, 5, 6, 3, 2, 1, 0] rfl)
      · rw [if_neg c5] at hf
        refine lv_iconst (v := (-1)) cx.1 cx.2.1 dX9_helps_22 (by decide) ?_
        have hq := Option.some.inj hf
        subst hq
        exact r_iret cx wo hr hlk dX9_helps_23
set_option maxHeartbeats 1000000 in
set_option maxRecDepth 10000 in
theorem mX9_mayBeHeard (l : Launch) {G : GG} {B : Nat} {x0 : Int32} {x1 : Int32}  {M : Mem} {q : Int32 × Mem} (hf : fX9_mayBeHeard x0 x1 M = some q) : Met l yX9_mayBeHeard (wsG yX9_mayBeHeard cX9_mayBeHeard 2 (some .boolean)) (rmN (2)) (PcW Ph G B 205 M [.int x0, .int x1]) (QcI Ph G B 205 q.1 q.2) 0 0 (fr B) := by
  refine mk_Met (own := RX9) rfl rfl (Nat.le_of_ble_eq_true rfl) ?_
  intro p e s m below meth c ls cx hr hlk wo hl
  have hl : lv_has ls 2 [(0, .int x0), (1, .int x1)] := hl
  unfold fX9_mayBeHeard at hf
  refine lv_iload_n cx.1 cx.2.1 dX9_mayBeHeard_0 rfl (lv_at hl 0 rfl) ?_
  refine lv_if_lt (tgt := 34) cx.1 cx.2.1 dX9_mayBeHeard_1 (by decide) (fun c1 => ?_) (fun c1 => ?_)
  · rw [if_pos c1] at hf
    refine lv_iconst (v := 0) cx.1 cx.2.1 dX9_mayBeHeard_34 (by decide) ?_
    have hq := Option.some.inj hf
    subst hq
    exact r_zret cx wo hr hlk (Or.inl rfl) dX9_mayBeHeard_35
  · rw [if_neg c1] at hf
    refine lv_iload_n cx.1 cx.2.1 dX9_mayBeHeard_4 rfl (lv_at hl 0 rfl) ?_
    refine r_gst0 cx wo ksX9_369 dX9_mayBeHeard_5 ?_
    refine r_tln0 cx wo dX9_mayBeHeard_8 ?_
    refine lv_icmp_ge (tgt := 34) cx.1 cx.2.1 dX9_mayBeHeard_9 (by decide) (fun c2 => ?_) (fun c2 => ?_)
    · rw [if_pos c2] at hf
      refine lv_iconst (v := 0) cx.1 cx.2.1 dX9_mayBeHeard_34 (by decide) ?_
      have hq := Option.some.inj hf
      subst hq
      exact r_zret cx wo hr hlk (Or.inl rfl) dX9_mayBeHeard_35
    · rw [if_neg c2] at hf
      refine lv_iload_n cx.1 cx.2.1 dX9_mayBeHeard_12 rfl (lv_at hl 1 rfl) ?_
      refine r_gst0 cx wo ksX9_369 dX9_mayBeHeard_13 ?_
      refine lv_iload_n cx.1 cx.2.1 dX9_mayBeHeard_16 rfl (lv_at hl 0 rfl) ?_
      obtain ⟨g3, hf⟩ := gd_elim hf
      refine r_tld0 cx wo g3 dX9_mayBeHeard_17 ?_
      refine lv_icmp_lt (tgt := 34) cx.1 cx.2.1 dX9_mayBeHeard_18 (by decide) (fun c4 => ?_) (fun c4 => ?_)
      · rw [if_pos c4] at hf
        refine lv_iconst (v := 0) cx.1 cx.2.1 dX9_mayBeHeard_34 (by decide) ?_
        have hq := Option.some.inj hf
        subst hq
        exact r_zret cx wo hr hlk (Or.inl rfl) dX9_mayBeHeard_35
      · rw [if_neg c4] at hf
        refine lv_iload_n cx.1 cx.2.1 dX9_mayBeHeard_21 rfl (lv_at hl 1 rfl) ?_
        refine r_gst1 cx wo ksX9_372 dX9_mayBeHeard_22 ?_
        refine lv_iload_n cx.1 cx.2.1 dX9_mayBeHeard_25 rfl (lv_at hl 0 rfl) ?_
        obtain ⟨g5, hf⟩ := gd_elim hf
        refine r_tld1 cx wo g5 dX9_mayBeHeard_26 ?_
        refine lv_icmp_gt (tgt := 34) cx.1 cx.2.1 dX9_mayBeHeard_27 (by decide) (fun c6 => ?_) (fun c6 => ?_)
        · rw [if_pos c6] at hf
          refine lv_iconst (v := 0) cx.1 cx.2.1 dX9_mayBeHeard_34 (by decide) ?_
          have hq := Option.some.inj hf
          subst hq
          exact r_zret cx wo hr hlk (Or.inl rfl) dX9_mayBeHeard_35
        · rw [if_neg c6] at hf
          refine lv_iconst (v := 1) cx.1 cx.2.1 dX9_mayBeHeard_30 (by decide) ?_
          refine lv_goto (tgt := 35) cx.1 cx.2.1 dX9_mayBeHeard_31 (by decide) ?_
          have hq := Option.some.inj hf
          subst hq
          exact r_zret cx wo hr hlk (Or.inr rfl) dX9_mayBeHeard_35
set_option maxHeartbeats 1000000 in
set_option maxRecDepth 10000 in
theorem mX9_heard (l : Launch) {G : GG} {B : Nat} {x1 : Int32} {x2 : Int32}  {M : Mem} {q : Int32 × Mem} (hf : fX9_heard x1 x2 M = some q) : Met l yX9_heard (wsG yX9_heard cX9_heard 3 (some .int)) (rmN (3)) (PcW Ph G B 205 M [.ref (B + 1), .int x1, .int x2]) (QcI Ph G B 205 q.1 q.2) 0 0 (fr B) := by
  refine mk_Met (own := RX9) rfl rfl (Nat.le_of_ble_eq_true rfl) ?_
  intro p e s m below meth c ls cx hr hlk wo hl
  have hl : lv_has ls 3 [(0, .ref (B + 1)), (1, .int x1), (2, .int x2)] := hl
  unfold fX9_heard at hf
  refine lv_iload_n cx.1 cx.2.1 dX9_heard_0 rfl (lv_at hl 1 rfl) ?_
  refine lv_iload_n cx.1 cx.2.1 dX9_heard_1 rfl (lv_at hl 2 rfl) ?_
  obtain ⟨q1, e2, hf⟩ := bd_elim hf
  refine r_Si (rest := []) cx wo (mX9_mayBeHeard l e2) csX9_355 rfl hl.1 rfl (Nat.le_of_ble_eq_true rfl) (hR_ok (by decide)) dX9_heard_2 (fun H locs wo => ?_)
  refine lv_if_eq (tgt := 20) cx.1 cx.2.1 dX9_heard_5 (by decide) (fun c3 => ?_) (fun c3 => ?_)
  · rw [if_pos c3] at hf
    refine lv_iconst (v := (-1)) cx.1 cx.2.1 dX9_heard_20 (by decide) ?_
    have hq := Option.some.inj hf
    subst hq
    exact r_iret cx wo hr hlk dX9_heard_21
  · rw [if_neg c3] at hf
    refine lv_aload_n cx.1 cx.2.1 dX9_heard_8 rfl (lv_at hl 0 rfl) ?_
    refine r_getR cx wo ad_1.1 ad_1.2.1 ad_1.2.2 fiX9_57 (fn_1_9 wo.2.2.2.1) (by decide) dX9_heard_9 ?_
    refine r_getI cx wo ad_105.1 ad_105.2.1 ad_105.2.2 fiX9_358 dX9_heard_12 ?_
    refine lv_bipush (v := 12) cx.1 cx.2.1 dX9_heard_15 (by decide) ?_
    refine lv_icmp_lt (tgt := 22) cx.1 cx.2.1 dX9_heard_17 (by decide) (fun c4 => ?_) (fun c4 => ?_)
    · rw [if_pos c4] at hf
      refine lv_aload_n cx.1 cx.2.1 dX9_heard_22 rfl (lv_at hl 0 rfl) ?_
      refine r_getR cx wo ad_1.1 ad_1.2.1 ad_1.2.2 fiX9_57 (fn_1_9 wo.2.2.2.1) (by decide) dX9_heard_23 ?_
      refine lv_iload_n cx.1 cx.2.1 dX9_heard_26 rfl (lv_at hl 1 rfl) ?_
      refine lv_iload_n cx.1 cx.2.1 dX9_heard_27 rfl (lv_at hl 2 rfl) ?_
      obtain ⟨q5, e6, hf⟩ := bd_elim hf
      refine r_Vv (rest := []) cx wo (mX7_add l e6) cvX9_359 rfl ad_105.1 ad_105.2.1 ad_105.2.2 rfl rfl hl.1 rfl (Nat.le_of_ble_eq_true rfl) (hR_ok (by decide)) dX9_heard_28 (fun H locs wo => ?_)
      refine lv_aload_n cx.1 cx.2.1 dX9_heard_31 rfl (lv_at hl 0 rfl) ?_
      refine r_getR cx wo ad_1.1 ad_1.2.1 ad_1.2.2 fiX9_57 (fn_1_9 wo.2.2.2.1) (by decide) dX9_heard_32 ?_
      refine r_getI cx wo ad_105.1 ad_105.2.1 ad_105.2.2 fiX9_358 dX9_heard_35 ?_
      have hq := Option.some.inj hf
      subst hq
      exact r_iret cx wo hr hlk dX9_heard_38
    · rw [if_neg c4] at hf
      refine lv_iconst (v := (-1)) cx.1 cx.2.1 dX9_heard_20 (by decide) ?_
      have hq := Option.some.inj hf
      subst hq
      exact r_iret cx wo hr hlk dX9_heard_21
set_option maxHeartbeats 1000000 in
set_option maxRecDepth 10000 in
theorem mX9_forget (l : Launch) {G : GG} {B : Nat}   {M : Mem} {q : Int32 × Mem} (hf : fX9_forget  M = some q) : Met l yX9_forget (wsG yX9_forget cX9_forget 2 (some .int)) (rmN (2)) (PcW Ph G B 205 M [.ref (B + 1)]) (QcI Ph G B 205 q.1 q.2) 0 0 (fr B) := by
  refine mk_Met (own := RX9) rfl rfl (Nat.le_of_ble_eq_true rfl) ?_
  intro p e s m below meth c ls cx hr hlk wo hl
  have hl : lv_has ls 2 [(0, .ref (B + 1))] := hl
  unfold fX9_forget at hf
  refine lv_aload_n cx.1 cx.2.1 dX9_forget_0 rfl (lv_at hl 0 rfl) ?_
  refine r_getR cx wo ad_1.1 ad_1.2.1 ad_1.2.2 fiX9_57 (fn_1_9 wo.2.2.2.1) (by decide) dX9_forget_1 ?_
  refine r_getI cx wo ad_105.1 ad_105.2.1 ad_105.2.2 fiX9_358 dX9_forget_4 ?_
  obtain ⟨y1, e2, hf⟩ := lt_elim hf
  refine r_topi e2 ?_
  refine lv_istore_n (lv' := [(1, .int y1), (0, .ref (B + 1))]) cx.1 cx.2.1 dX9_forget_7 rfl hl (by decide) rfl (fun ls hl => ?_)
  refine lv_aload_n cx.1 cx.2.1 dX9_forget_8 rfl (lv_at hl 1 rfl) ?_
  refine r_getR cx wo ad_1.1 ad_1.2.1 ad_1.2.2 fiX9_57 (fn_1_9 wo.2.2.2.1) (by decide) dX9_forget_9 ?_
  refine lv_iconst (v := 0) cx.1 cx.2.1 dX9_forget_12 (by decide) ?_
  obtain ⟨M3, e4, hf⟩ := lt_elim hf
  refine r_putI cx wo ad_105.1 ad_105.2.1 ad_105.2.2 fpX9_358 dX9_forget_13 (fun H locs wo => ?_)
  rw [← e4] at wo
  refine lv_iload_n cx.1 cx.2.1 dX9_forget_16 rfl (lv_at hl 0 rfl) ?_
  have hq := Option.some.inj hf
  subst hq
  exact r_iret cx wo hr hlk dX9_forget_17
set_option maxHeartbeats 1000000 in
set_option maxRecDepth 10000 in
theorem wX9_boatsOfWhich_166 (cx : Cx p s m args c cX9_boatsOfWhich 7 RX9 G) (hr : meth.sig.returnType = (some .int)) (hlk : meth.locks = false) {k82 : Int32 → Int32 → Int32 → Int32 → Mem → Option (Int32 × Mem)} (hk82 : ∀ (x1 : Int32) (x2 : Int32) (x4 : Int32) (x5 : Int32)  (M : Mem) (q : Int32 × Mem), k82 x1 x2 x4 x5 M = some q → ∀ (H : Heap) (locs : List Loc) (ls : Array Slot), Wo Ph G B 205 s M H locs → lv_has ls 7 [(0, .ref (B + 1)), (1, .int x1), (2, .int x2), (4, .int x4), (5, .int x5)] → W p l e (rmN (4)) s m args below meth c H locs 0 0 (MQ below (QcI Ph G B 205 q.1 q.2) args s 0 0 (fr B)) (F0 m 82 ls [])) : ∀ (x1 : Int32) (x2 : Int32) (x4 : Int32) (x5 : Int32) (s0 : Int32)  (M : Mem) (q : Int32 × Mem), fX9_boatsOfWhich_166 k82 x1 x2 x4 x5 s0 M = some q → ∀ (H : Heap) (locs : List Loc) (ls : Array Slot), Wo Ph G B 205 s M H locs → lv_has ls 7 [(0, .ref (B + 1)), (1, .int x1), (2, .int x2), (4, .int x4), (5, .int x5)] → W p l e (rmN (4)) s m args below meth c H locs 0 0 (MQ below (QcI Ph G B 205 q.1 q.2) args s 0 0 (fr B)) (F0 m 166 ls [.int s0]) := by
  intro x1 x2 x4 x5 s0 M q hf H locs ls wo hl
  unfold fX9_boatsOfWhich_166 at hf
  refine lv_istore (lv' := [(6, .int s0), (0, .ref (B + 1)), (1, .int x1), (2, .int x2), (4, .int x4), (5, .int x5)]) cx.1 cx.2.1 dX9_boatsOfWhich_166 hl (by decide) rfl (fun ls hl => ?_)
  refine lv_iload cx.1 cx.2.1 dX9_boatsOfWhich_168 (lv_at hl 4 rfl) ?_
  refine lv_iload cx.1 cx.2.1 dX9_boatsOfWhich_170 (lv_at hl 0 rfl) ?_
  refine lv_if_eq (tgt := 182) cx.1 cx.2.1 dX9_boatsOfWhich_172 (by decide) (fun c24 => ?_) (fun c24 => ?_)
  · rw [if_pos c24] at hf
    refine lv_iconst (v := 0) cx.1 cx.2.1 dX9_boatsOfWhich_182 (by decide) ?_
    refine lv_ior cx.1 cx.2.1 dX9_boatsOfWhich_183 ?_
    obtain ⟨y25, e26, hf⟩ := lt_elim hf
    refine r_topi e26 ?_
    refine lv_istore (lv' := [(4, .int y25), (6, .int s0), (0, .ref (B + 1)), (1, .int x1), (2, .int x2), (5, .int x5)]) cx.1 cx.2.1 dX9_boatsOfWhich_184 hl (by decide) rfl (fun ls hl => ?_)
    obtain ⟨y27, e28, hf⟩ := lt_elim hf
    refine lv_iinc (v := y27) (lv' := [(5, .int y27), (4, .int y25), (6, .int s0), (0, .ref (B + 1)), (1, .int x1), (2, .int x2)]) cx.1 cx.2.1 dX9_boatsOfWhich_186 hl (k := 5) rfl (by rw [e28]; rfl) (by decide) rfl (fun ls hl => ?_)
    refine lv_goto (tgt := 82) cx.1 cx.2.1 dX9_boatsOfWhich_189 (by decide) ?_
    exact hk82 _ _ _ _ _ _ hf _ _ _ wo (lv_sub hl [3, 4, 5, 1, 0] rfl)
  · rw [if_neg c24] at hf
    refine lv_iconst (v := 1) cx.1 cx.2.1 dX9_boatsOfWhich_175 (by decide) ?_
    refine lv_iload cx.1 cx.2.1 dX9_boatsOfWhich_176 (lv_at hl 5 rfl) ?_
    refine lv_ishl cx.1 cx.2.1 dX9_boatsOfWhich_178 ?_
    refine lv_goto (tgt := 183) cx.1 cx.2.1 dX9_boatsOfWhich_179 (by decide) ?_
    refine lv_ior cx.1 cx.2.1 dX9_boatsOfWhich_183 ?_
    obtain ⟨y29, e30, hf⟩ := lt_elim hf
    refine r_topi e30 ?_
    refine lv_istore (lv' := [(4, .int y29), (6, .int s0), (0, .ref (B + 1)), (1, .int x1), (2, .int x2), (5, .int x5)]) cx.1 cx.2.1 dX9_boatsOfWhich_184 hl (by decide) rfl (fun ls hl => ?_)
    obtain ⟨y31, e32, hf⟩ := lt_elim hf
    refine lv_iinc (v := y31) (lv' := [(5, .int y31), (4, .int y29), (6, .int s0), (0, .ref (B + 1)), (1, .int x1), (2, .int x2)]) cx.1 cx.2.1 dX9_boatsOfWhich_186 hl (k := 5) rfl (by rw [e32]; rfl) (by decide) rfl (fun ls hl => ?_)
    refine lv_goto (tgt := 82) cx.1 cx.2.1 dX9_boatsOfWhich_189 (by decide) ?_
    exact hk82 _ _ _ _ _ _ hf _ _ _ wo (lv_sub hl [3, 4, 5, 1, 0] rfl)
set_option maxHeartbeats 1000000 in
set_option maxRecDepth 10000 in
theorem wX9_boatsOfWhich_82 (cx : Cx p s m args c cX9_boatsOfWhich 7 RX9 G) (hr : meth.sig.returnType = (some .int)) (hlk : meth.locks = false) : ∀ (n : Nat) (x1 : Int32) (x2 : Int32) (x4 : Int32) (x5 : Int32)  (M : Mem) (q : Int32 × Mem), fX9_boatsOfWhich_82 n x1 x2 x4 x5 M = some q → ∀ (H : Heap) (locs : List Loc) (ls : Array Slot), Wo Ph G B 205 s M H locs → lv_has ls 7 [(0, .ref (B + 1)), (1, .int x1), (2, .int x2), (4, .int x4), (5, .int x5)] → W p l e (rmN (4)) s m args below meth c H locs 0 0 (MQ below (QcI Ph G B 205 q.1 q.2) args s 0 0 (fr B)) (F0 m 82 ls []) := by
  intro n
  induction n with
  | zero =>
    intro x1 x2 x4 x5 M q hf H locs ls wo hl
    have hf : none = some q := hf
    cases hf
  | succ n ih =>
    intro x1 x2 x4 x5 M q hf H locs ls wo hl
    rw [fX9_boatsOfWhich_82] at hf
    refine lv_iload cx.1 cx.2.1 dX9_boatsOfWhich_82 (lv_at hl 4 rfl) ?_
    refine lv_aload_n cx.1 cx.2.1 dX9_boatsOfWhich_84 rfl (lv_at hl 0 rfl) ?_
    refine r_getR cx wo ad_1.1 ad_1.2.1 ad_1.2.2 fiX9_26 (fn_1_2 wo.2.2.2.1) (by decide) dX9_boatsOfWhich_85 ?_
    refine r_getI cx wo ad_6.1 ad_6.2.1 ad_6.2.2 fiX9_282 dX9_boatsOfWhich_88 ?_
    refine lv_icmp_ge (tgt := 192) cx.1 cx.2.1 dX9_boatsOfWhich_91 (by decide) (fun c15 => ?_) (fun c15 => ?_)
    · rw [if_pos c15] at hf
      refine lv_iload cx.1 cx.2.1 dX9_boatsOfWhich_192 (lv_at hl 3 rfl) ?_
      have hq := Option.some.inj hf
      subst hq
      exact r_iret cx wo hr hlk dX9_boatsOfWhich_194
    · rw [if_neg c15] at hf
      refine lv_iload_n cx.1 cx.2.1 dX9_boatsOfWhich_94 rfl (lv_at hl 1 rfl) ?_
      refine lv_if_ne (tgt := 120) cx.1 cx.2.1 dX9_boatsOfWhich_95 (by decide) (fun c16 => ?_) (fun c16 => ?_)
      · rw [if_neg c16] at hf
        refine lv_iload_n cx.1 cx.2.1 dX9_boatsOfWhich_120 rfl (lv_at hl 1 rfl) ?_
        refine lv_iconst (v := 1) cx.1 cx.2.1 dX9_boatsOfWhich_121 (by decide) ?_
        refine lv_icmp_ne (tgt := 147) cx.1 cx.2.1 dX9_boatsOfWhich_122 (by decide) (fun c17 => ?_) (fun c17 => ?_)
        · rw [if_neg c17] at hf
          refine lv_aload_n cx.1 cx.2.1 dX9_boatsOfWhich_147 rfl (lv_at hl 0 rfl) ?_
          refine r_getR cx wo ad_1.1 ad_1.2.1 ad_1.2.2 fiX9_26 (fn_1_2 wo.2.2.2.1) (by decide) dX9_boatsOfWhich_148 ?_
          refine r_getR cx wo ad_6.1 ad_6.2.1 ad_6.2.2 fiX9_151 (fn_6_3 wo.2.2.2.1) (by decide) dX9_boatsOfWhich_151 ?_
          refine lv_iload cx.1 cx.2.1 dX9_boatsOfWhich_154 (lv_at hl 4 rfl) ?_
          obtain ⟨g18, hf⟩ := gd_elim hf
          refine r_iald cx wo ad_9.1 ad_9.2.1 ad_9.2.2 (by rw [ln_9]; exact g18) dX9_boatsOfWhich_156 ?_
          refine lv_iload_n cx.1 cx.2.1 dX9_boatsOfWhich_157 rfl (lv_at hl 2 rfl) ?_
          refine lv_icmp_gt (tgt := 165) cx.1 cx.2.1 dX9_boatsOfWhich_158 (by decide) (fun c19 => ?_) (fun c19 => ?_)
          · rw [if_pos c19] at hf
            refine lv_iconst (v := 0) cx.1 cx.2.1 dX9_boatsOfWhich_165 (by decide) ?_
            exact wX9_boatsOfWhich_166 cx hr hlk ih _ _ _ _ _ _ _ hf _ _ _ wo (lv_sub hl [0, 1, 2, 3, 4] rfl)
          · rw [if_neg c19] at hf
            refine lv_iconst (v := 1) cx.1 cx.2.1 dX9_boatsOfWhich_161 (by decide) ?_
            refine lv_goto (tgt := 166) cx.1 cx.2.1 dX9_boatsOfWhich_162 (by decide) ?_
            exact wX9_boatsOfWhich_166 cx hr hlk ih _ _ _ _ _ _ _ hf _ _ _ wo (lv_sub hl [0, 1, 2, 3, 4] rfl)
        · rw [if_pos c17] at hf
          refine lv_aload_n cx.1 cx.2.1 dX9_boatsOfWhich_125 rfl (lv_at hl 0 rfl) ?_
          refine r_getR cx wo ad_1.1 ad_1.2.1 ad_1.2.2 fiX9_26 (fn_1_2 wo.2.2.2.1) (by decide) dX9_boatsOfWhich_126 ?_
          refine r_getR cx wo ad_6.1 ad_6.2.1 ad_6.2.2 fiX9_148 (fn_6_2 wo.2.2.2.1) (by decide) dX9_boatsOfWhich_129 ?_
          refine lv_iload cx.1 cx.2.1 dX9_boatsOfWhich_132 (lv_at hl 4 rfl) ?_
          obtain ⟨g20, hf⟩ := gd_elim hf
          refine r_iald cx wo ad_8.1 ad_8.2.1 ad_8.2.2 (by rw [ln_8]; exact g20) dX9_boatsOfWhich_134 ?_
          refine lv_iload_n cx.1 cx.2.1 dX9_boatsOfWhich_135 rfl (lv_at hl 2 rfl) ?_
          refine lv_icmp_lt (tgt := 143) cx.1 cx.2.1 dX9_boatsOfWhich_136 (by decide) (fun c21 => ?_) (fun c21 => ?_)
          · rw [if_pos c21] at hf
            refine lv_iconst (v := 0) cx.1 cx.2.1 dX9_boatsOfWhich_143 (by decide) ?_
            refine lv_goto (tgt := 166) cx.1 cx.2.1 dX9_boatsOfWhich_144 (by decide) ?_
            exact wX9_boatsOfWhich_166 cx hr hlk ih _ _ _ _ _ _ _ hf _ _ _ wo (lv_sub hl [0, 1, 2, 3, 4] rfl)
          · rw [if_neg c21] at hf
            refine lv_iconst (v := 1) cx.1 cx.2.1 dX9_boatsOfWhich_139 (by decide) ?_
            refine lv_goto (tgt := 166) cx.1 cx.2.1 dX9_boatsOfWhich_140 (by decide) ?_
            exact wX9_boatsOfWhich_166 cx hr hlk ih _ _ _ _ _ _ _ hf _ _ _ wo (lv_sub hl [0, 1, 2, 3, 4] rfl)
      · rw [if_pos c16] at hf
        refine lv_aload_n cx.1 cx.2.1 dX9_boatsOfWhich_98 rfl (lv_at hl 0 rfl) ?_
        refine r_getR cx wo ad_1.1 ad_1.2.1 ad_1.2.2 fiX9_26 (fn_1_2 wo.2.2.2.1) (by decide) dX9_boatsOfWhich_99 ?_
        refine r_getR cx wo ad_6.1 ad_6.2.1 ad_6.2.2 fiX9_145 (fn_6_1 wo.2.2.2.1) (by decide) dX9_boatsOfWhich_102 ?_
        refine lv_iload cx.1 cx.2.1 dX9_boatsOfWhich_105 (lv_at hl 4 rfl) ?_
        obtain ⟨g22, hf⟩ := gd_elim hf
        refine r_iald cx wo ad_7.1 ad_7.2.1 ad_7.2.2 (by rw [ln_7]; exact g22) dX9_boatsOfWhich_107 ?_
        refine lv_iload_n cx.1 cx.2.1 dX9_boatsOfWhich_108 rfl (lv_at hl 2 rfl) ?_
        refine lv_icmp_lt (tgt := 116) cx.1 cx.2.1 dX9_boatsOfWhich_109 (by decide) (fun c23 => ?_) (fun c23 => ?_)
        · rw [if_pos c23] at hf
          refine lv_iconst (v := 0) cx.1 cx.2.1 dX9_boatsOfWhich_116 (by decide) ?_
          refine lv_goto (tgt := 166) cx.1 cx.2.1 dX9_boatsOfWhich_117 (by decide) ?_
          exact wX9_boatsOfWhich_166 cx hr hlk ih _ _ _ _ _ _ _ hf _ _ _ wo (lv_sub hl [0, 1, 2, 3, 4] rfl)
        · rw [if_neg c23] at hf
          refine lv_iconst (v := 1) cx.1 cx.2.1 dX9_boatsOfWhich_112 (by decide) ?_
          refine lv_goto (tgt := 166) cx.1 cx.2.1 dX9_boatsOfWhich_113 (by decide) ?_
          exact wX9_boatsOfWhich_166 cx hr hlk ih _ _ _ _ _ _ _ hf _ _ _ wo (lv_sub hl [0, 1, 2, 3, 4] rfl)
set_option maxHeartbeats 1000000 in
set_option maxRecDepth 10000 in
theorem mX9_boatsOfWhich (l : Launch) {G : GG} {B : Nat} {x1 : Int32} {x2 : Int32}  {M : Mem} {q : Int32 × Mem} (hf : fX9_boatsOfWhich x1 x2 M = some q) : Met l yX9_boatsOfWhich (wsG yX9_boatsOfWhich cX9_boatsOfWhich 7 (some .int)) (rmN (4)) (PcW Ph G B 205 M [.ref (B + 1), .int x1, .int x2]) (QcI Ph G B 205 q.1 q.2) 0 0 (fr B) := by
  refine mk_Met (own := RX9) rfl rfl (Nat.le_of_ble_eq_true rfl) ?_
  intro p e s m below meth c ls cx hr hlk wo hl
  have hl : lv_has ls 7 [(0, .ref (B + 1)), (1, .int x1), (2, .int x2)] := hl
  unfold fX9_boatsOfWhich at hf
  refine lv_iconst (v := 1) cx.1 cx.2.1 dX9_boatsOfWhich_0 (by decide) ?_
  refine lv_aload_n cx.1 cx.2.1 dX9_boatsOfWhich_1 rfl (lv_at hl 0 rfl) ?_
  refine r_getR cx wo ad_1.1 ad_1.2.1 ad_1.2.2 fiX9_26 (fn_1_2 wo.2.2.2.1) (by decide) dX9_boatsOfWhich_2 ?_
  refine r_getI cx wo ad_6.1 ad_6.2.1 ad_6.2.2 fiX9_282 dX9_boatsOfWhich_5 ?_
  refine lv_ishl cx.1 cx.2.1 dX9_boatsOfWhich_8 ?_
  refine lv_iconst (v := 1) cx.1 cx.2.1 dX9_boatsOfWhich_9 (by decide) ?_
  refine lv_isub cx.1 cx.2.1 dX9_boatsOfWhich_10 ?_
  obtain ⟨y1, e2, hf⟩ := lt_elim hf
  refine r_topi e2 ?_
  refine lv_istore_n (lv' := [(3, .int y1), (0, .ref (B + 1)), (1, .int x1), (2, .int x2)]) cx.1 cx.2.1 dX9_boatsOfWhich_11 rfl hl (by decide) rfl (fun ls hl => ?_)
  refine lv_iload_n cx.1 cx.2.1 dX9_boatsOfWhich_12 rfl (lv_at hl 2 rfl) ?_
  refine lv_iconst (v := 3) cx.1 cx.2.1 dX9_boatsOfWhich_13 (by decide) ?_
  refine lv_icmp_ne (tgt := 44) cx.1 cx.2.1 dX9_boatsOfWhich_14 (by decide) (fun c3 => ?_) (fun c3 => ?_)
  · rw [if_neg c3] at hf
    refine lv_iload_n cx.1 cx.2.1 dX9_boatsOfWhich_44 rfl (lv_at hl 2 rfl) ?_
    refine lv_iconst (v := 4) cx.1 cx.2.1 dX9_boatsOfWhich_45 (by decide) ?_
    refine lv_icmp_ne (tgt := 76) cx.1 cx.2.1 dX9_boatsOfWhich_46 (by decide) (fun c4 => ?_) (fun c4 => ?_)
    · rw [if_neg c4] at hf
      refine lv_iconst (v := 0) cx.1 cx.2.1 dX9_boatsOfWhich_76 (by decide) ?_
      refine lv_istore (lv' := [(4, .int 0), (3, .int y1), (0, .ref (B + 1)), (1, .int x1), (2, .int x2)]) cx.1 cx.2.1 dX9_boatsOfWhich_77 hl (by decide) rfl (fun ls hl => ?_)
      refine lv_iconst (v := 0) cx.1 cx.2.1 dX9_boatsOfWhich_79 (by decide) ?_
      refine lv_istore (lv' := [(5, .int 0), (4, .int 0), (3, .int y1), (0, .ref (B + 1)), (1, .int x1), (2, .int x2)]) cx.1 cx.2.1 dX9_boatsOfWhich_80 hl (by decide) rfl (fun ls hl => ?_)
      exact wX9_boatsOfWhich_82 cx hr hlk _ _ _ _ _ _ _ hf _ _ _ wo (lv_sub hl [3, 4, 5, 1, 0] rfl)
    · rw [if_pos c4] at hf
      refine lv_iload_n cx.1 cx.2.1 dX9_boatsOfWhich_49 rfl (lv_at hl 3 rfl) ?_
      refine lv_iconst (v := 1) cx.1 cx.2.1 dX9_boatsOfWhich_50 (by decide) ?_
      refine lv_icmp_ne (tgt := 64) cx.1 cx.2.1 dX9_boatsOfWhich_51 (by decide) (fun c5 => ?_) (fun c5 => ?_)
      · rw [if_neg c5] at hf
        refine lv_iload_n cx.1 cx.2.1 dX9_boatsOfWhich_64 rfl (lv_at hl 0 rfl) ?_
        refine lv_aload_n cx.1 cx.2.1 dX9_boatsOfWhich_65 rfl (lv_at hl 1 rfl) ?_
        refine r_getR cx wo ad_1.1 ad_1.2.1 ad_1.2.2 fiX9_64 (fn_1_10 wo.2.2.2.1) (by decide) dX9_boatsOfWhich_66 ?_
        obtain ⟨q6, e7, hf⟩ := bd_elim hf
        refine r_Vi (rest := [.int y1]) cx wo (mX3_touchedOnes l e7) cvX9_266 rfl ad_108.1 ad_108.2.1 ad_108.2.2 rfl rfl hl.1 rfl (Nat.le_of_ble_eq_true rfl) (hR_ok (by decide)) dX9_boatsOfWhich_69 (fun H locs wo => ?_)
        refine lv_iconst (v := (-1)) cx.1 cx.2.1 dX9_boatsOfWhich_72 (by decide) ?_
        refine lv_ixor cx.1 cx.2.1 dX9_boatsOfWhich_73 ?_
        refine lv_iand cx.1 cx.2.1 dX9_boatsOfWhich_74 ?_
        have hq := Option.some.inj hf
        subst hq
        exact r_iret cx wo hr hlk dX9_boatsOfWhich_75
      · rw [if_pos c5] at hf
        refine lv_aload_n cx.1 cx.2.1 dX9_boatsOfWhich_54 rfl (lv_at hl 1 rfl) ?_
        refine r_getR cx wo ad_1.1 ad_1.2.1 ad_1.2.2 fiX9_64 (fn_1_10 wo.2.2.2.1) (by decide) dX9_boatsOfWhich_55 ?_
        obtain ⟨q8, e9, hf⟩ := bd_elim hf
        refine r_Vi (rest := []) cx wo (mX3_touchedOnes l e9) cvX9_266 rfl ad_108.1 ad_108.2.1 ad_108.2.2 rfl rfl hl.1 rfl (Nat.le_of_ble_eq_true rfl) (hR_ok (by decide)) dX9_boatsOfWhich_58 (fun H locs wo => ?_)
        refine lv_goto (tgt := 75) cx.1 cx.2.1 dX9_boatsOfWhich_61 (by decide) ?_
        have hq := Option.some.inj hf
        subst hq
        exact r_iret cx wo hr hlk dX9_boatsOfWhich_75
  · rw [if_pos c3] at hf
    refine lv_iload_n cx.1 cx.2.1 dX9_boatsOfWhich_17 rfl (lv_at hl 3 rfl) ?_
    refine lv_iconst (v := 1) cx.1 cx.2.1 dX9_boatsOfWhich_18 (by decide) ?_
    refine lv_icmp_ne (tgt := 32) cx.1 cx.2.1 dX9_boatsOfWhich_19 (by decide) (fun c10 => ?_) (fun c10 => ?_)
    · rw [if_neg c10] at hf
      refine lv_iload_n cx.1 cx.2.1 dX9_boatsOfWhich_32 rfl (lv_at hl 0 rfl) ?_
      refine lv_aload_n cx.1 cx.2.1 dX9_boatsOfWhich_33 rfl (lv_at hl 1 rfl) ?_
      refine r_getR cx wo ad_1.1 ad_1.2.1 ad_1.2.2 fiX9_64 (fn_1_10 wo.2.2.2.1) (by decide) dX9_boatsOfWhich_34 ?_
      obtain ⟨q11, e12, hf⟩ := bd_elim hf
      refine r_Vi (rest := [.int y1]) cx wo (mX3_touchers l e12) cvX9_263 rfl ad_108.1 ad_108.2.1 ad_108.2.2 rfl rfl hl.1 rfl (Nat.le_of_ble_eq_true rfl) (hR_ok (by decide)) dX9_boatsOfWhich_37 (fun H locs wo => ?_)
      refine lv_iconst (v := (-1)) cx.1 cx.2.1 dX9_boatsOfWhich_40 (by decide) ?_
      refine lv_ixor cx.1 cx.2.1 dX9_boatsOfWhich_41 ?_
      refine lv_iand cx.1 cx.2.1 dX9_boatsOfWhich_42 ?_
      have hq := Option.some.inj hf
      subst hq
      exact r_iret cx wo hr hlk dX9_boatsOfWhich_43
    · rw [if_pos c10] at hf
      refine lv_aload_n cx.1 cx.2.1 dX9_boatsOfWhich_22 rfl (lv_at hl 1 rfl) ?_
      refine r_getR cx wo ad_1.1 ad_1.2.1 ad_1.2.2 fiX9_64 (fn_1_10 wo.2.2.2.1) (by decide) dX9_boatsOfWhich_23 ?_
      obtain ⟨q13, e14, hf⟩ := bd_elim hf
      refine r_Vi (rest := []) cx wo (mX3_touchers l e14) cvX9_263 rfl ad_108.1 ad_108.2.1 ad_108.2.2 rfl rfl hl.1 rfl (Nat.le_of_ble_eq_true rfl) (hR_ok (by decide)) dX9_boatsOfWhich_26 (fun H locs wo => ?_)
      refine lv_goto (tgt := 43) cx.1 cx.2.1 dX9_boatsOfWhich_29 (by decide) ?_
      have hq := Option.some.inj hf
      subst hq
      exact r_iret cx wo hr hlk dX9_boatsOfWhich_43
set_option maxHeartbeats 1000000 in
set_option maxRecDepth 10000 in
theorem wX9_fittingBoats_29 (cx : Cx p s m args c cX9_fittingBoats 3 RX9 G) (hr : meth.sig.returnType = (some .int)) (hlk : meth.locks = false) : ∀ (n : Nat) (x1 : Int32) (x2 : Int32)  (M : Mem) (q : Int32 × Mem), fX9_fittingBoats_29 n x1 x2 M = some q → ∀ (H : Heap) (locs : List Loc) (ls : Array Slot), Wo Ph G B 205 s M H locs → lv_has ls 3 [(0, .ref (B + 1)), (1, .int x1), (2, .int x2)] → W p l e (rmN (7)) s m args below meth c H locs 0 0 (MQ below (QcI Ph G B 205 q.1 q.2) args s 0 0 (fr B)) (F0 m 29 ls []) := by
  intro n
  induction n with
  | zero =>
    intro x1 x2 M q hf H locs ls wo hl
    have hf : none = some q := hf
    cases hf
  | succ n ih =>
    intro x1 x2 M q hf H locs ls wo hl
    rw [fX9_fittingBoats_29] at hf
    refine lv_iload_n cx.1 cx.2.1 dX9_fittingBoats_29 rfl (lv_at hl 2 rfl) ?_
    refine lv_aload_n cx.1 cx.2.1 dX9_fittingBoats_30 rfl (lv_at hl 0 rfl) ?_
    refine r_getR cx wo ad_1.1 ad_1.2.1 ad_1.2.2 fiX9_57 (fn_1_9 wo.2.2.2.1) (by decide) dX9_fittingBoats_31 ?_
    refine r_getI cx wo ad_105.1 ad_105.2.1 ad_105.2.2 fiX9_358 dX9_fittingBoats_34 ?_
    refine lv_icmp_ge (tgt := 71) cx.1 cx.2.1 dX9_fittingBoats_37 (by decide) (fun c6 => ?_) (fun c6 => ?_)
    · rw [if_pos c6] at hf
      refine lv_iload_n cx.1 cx.2.1 dX9_fittingBoats_71 rfl (lv_at hl 1 rfl) ?_
      have hq := Option.some.inj hf
      subst hq
      exact r_iret cx wo hr hlk dX9_fittingBoats_72
    · rw [if_neg c6] at hf
      refine lv_iload_n cx.1 cx.2.1 dX9_fittingBoats_40 rfl (lv_at hl 1 rfl) ?_
      refine lv_aload_n cx.1 cx.2.1 dX9_fittingBoats_41 rfl (lv_at hl 0 rfl) ?_
      refine lv_aload_n cx.1 cx.2.1 dX9_fittingBoats_42 rfl (lv_at hl 0 rfl) ?_
      refine r_getR cx wo ad_1.1 ad_1.2.1 ad_1.2.2 fiX9_57 (fn_1_9 wo.2.2.2.1) (by decide) dX9_fittingBoats_43 ?_
      refine r_getR cx wo ad_105.1 ad_105.2.1 ad_105.2.2 fiX9_429 (fn_105_0 wo.2.2.2.1) (by decide) dX9_fittingBoats_46 ?_
      refine lv_iload_n cx.1 cx.2.1 dX9_fittingBoats_49 rfl (lv_at hl 2 rfl) ?_
      obtain ⟨g7, hf⟩ := gd_elim hf
      refine r_iald cx wo ad_106.1 ad_106.2.1 ad_106.2.2 (by rw [ln_106]; exact g7) dX9_fittingBoats_50 ?_
      refine lv_aload_n cx.1 cx.2.1 dX9_fittingBoats_51 rfl (lv_at hl 0 rfl) ?_
      refine r_getR cx wo ad_1.1 ad_1.2.1 ad_1.2.2 fiX9_57 (fn_1_9 wo.2.2.2.1) (by decide) dX9_fittingBoats_52 ?_
      refine r_getR cx wo ad_105.1 ad_105.2.1 ad_105.2.2 fiX9_432 (fn_105_1 wo.2.2.2.1) (by decide) dX9_fittingBoats_55 ?_
      refine lv_iload_n cx.1 cx.2.1 dX9_fittingBoats_58 rfl (lv_at hl 2 rfl) ?_
      obtain ⟨g8, hf⟩ := gd_elim hf
      refine r_iald cx wo ad_107.1 ad_107.2.1 ad_107.2.2 (by rw [ln_107]; exact g8) dX9_fittingBoats_59 ?_
      obtain ⟨q9, e10, hf⟩ := bd_elim hf
      refine r_Vi (rest := [.int x1]) cx wo (mX9_boatsOfWhich l e10) cvX9_375 rfl ad_1.1 ad_1.2.1 ad_1.2.2 rfl rfl hl.1 rfl (Nat.le_of_ble_eq_true rfl) (hR_ok (by decide)) dX9_fittingBoats_60 (fun H locs wo => ?_)
      refine lv_iand cx.1 cx.2.1 dX9_fittingBoats_63 ?_
      obtain ⟨y11, e12, hf⟩ := lt_elim hf
      refine r_topi e12 ?_
      refine lv_istore_n (lv' := [(1, .int y11), (0, .ref (B + 1)), (2, .int x2)]) cx.1 cx.2.1 dX9_fittingBoats_64 rfl hl (by decide) rfl (fun ls hl => ?_)
      obtain ⟨y13, e14, hf⟩ := lt_elim hf
      refine lv_iinc (v := y13) (lv' := [(2, .int y13), (1, .int y11), (0, .ref (B + 1))]) cx.1 cx.2.1 dX9_fittingBoats_65 hl (k := 2) rfl (by rw [e14]; rfl) (by decide) rfl (fun ls hl => ?_)
      refine lv_goto (tgt := 29) cx.1 cx.2.1 dX9_fittingBoats_68 (by decide) ?_
      exact ih _ _ _ _ hf _ _ _ wo (lv_sub hl [2, 1, 0] rfl)
set_option maxHeartbeats 1000000 in
set_option maxRecDepth 10000 in
theorem mX9_fittingBoats (l : Launch) {G : GG} {B : Nat}   {M : Mem} {q : Int32 × Mem} (hf : fX9_fittingBoats  M = some q) : Met l yX9_fittingBoats (wsG yX9_fittingBoats cX9_fittingBoats 3 (some .int)) (rmN (7)) (PcW Ph G B 205 M [.ref (B + 1)]) (QcI Ph G B 205 q.1 q.2) 0 0 (fr B) := by
  refine mk_Met (own := RX9) rfl rfl (Nat.le_of_ble_eq_true rfl) ?_
  intro p e s m below meth c ls cx hr hlk wo hl
  have hl : lv_has ls 3 [(0, .ref (B + 1))] := hl
  unfold fX9_fittingBoats at hf
  refine lv_aload_n cx.1 cx.2.1 dX9_fittingBoats_0 rfl (lv_at hl 0 rfl) ?_
  refine r_getR cx wo ad_1.1 ad_1.2.1 ad_1.2.2 fiX9_64 (fn_1_10 wo.2.2.2.1) (by decide) dX9_fittingBoats_1 ?_
  refine lv_aload_n cx.1 cx.2.1 dX9_fittingBoats_4 rfl (lv_at hl 0 rfl) ?_
  refine r_getR cx wo ad_1.1 ad_1.2.1 ad_1.2.2 fiX9_26 (fn_1_2 wo.2.2.2.1) (by decide) dX9_fittingBoats_5 ?_
  refine lv_aload_n cx.1 cx.2.1 dX9_fittingBoats_8 rfl (lv_at hl 0 rfl) ?_
  have hm1 : M.2.2 1 17 ∈ rules := wo.2.2.2.1.2.2.1
  refine r_getR cx wo ad_1.1 ad_1.2.1 ad_1.2.2 fiX9_100 rfl (rul_ok _ hm1).1.1 dX9_fittingBoats_9 ?_
  obtain ⟨q2, e3, hf⟩ := bd_elim hf
  refine r_Vv (rest := []) cx wo (mX3_run l (by decide) hm1 e3) cvX9_157 rfl ad_108.1 ad_108.2.1 ad_108.2.2 rfl rfl hl.1 rfl (Nat.le_of_ble_eq_true rfl) (hR_ok (by decide)) dX9_fittingBoats_12 (fun H locs wo => ?_)
  refine lv_iconst (v := 1) cx.1 cx.2.1 dX9_fittingBoats_15 (by decide) ?_
  refine lv_aload_n cx.1 cx.2.1 dX9_fittingBoats_16 rfl (lv_at hl 0 rfl) ?_
  refine r_getR cx wo ad_1.1 ad_1.2.1 ad_1.2.2 fiX9_26 (fn_1_2 wo.2.2.2.1) (by decide) dX9_fittingBoats_17 ?_
  refine r_getI cx wo ad_6.1 ad_6.2.1 ad_6.2.2 fiX9_282 dX9_fittingBoats_20 ?_
  refine lv_ishl cx.1 cx.2.1 dX9_fittingBoats_23 ?_
  refine lv_iconst (v := 1) cx.1 cx.2.1 dX9_fittingBoats_24 (by decide) ?_
  refine lv_isub cx.1 cx.2.1 dX9_fittingBoats_25 ?_
  obtain ⟨y4, e5, hf⟩ := lt_elim hf
  refine r_topi e5 ?_
  refine lv_istore_n (lv' := [(1, .int y4), (0, .ref (B + 1))]) cx.1 cx.2.1 dX9_fittingBoats_26 rfl hl (by decide) rfl (fun ls hl => ?_)
  refine lv_iconst (v := 0) cx.1 cx.2.1 dX9_fittingBoats_27 (by decide) ?_
  refine lv_istore_n (lv' := [(2, .int 0), (1, .int y4), (0, .ref (B + 1))]) cx.1 cx.2.1 dX9_fittingBoats_28 rfl hl (by decide) rfl (fun ls hl => ?_)
  exact wX9_fittingBoats_29 cx hr hlk _ _ _ _ _ hf _ _ _ wo (lv_sub hl [2, 1, 0] rfl)
set_option maxHeartbeats 1000000 in
set_option maxRecDepth 10000 in
theorem mX9_fits (l : Launch) {G : GG} {B : Nat}   {M : Mem} {q : Int32 × Mem} (hf : fX9_fits  M = some q) : Met l yX9_fits (wsG yX9_fits cX9_fits 2 (some .int)) (rmN (8)) (PcW Ph G B 205 M [.ref (B + 1)]) (QcI Ph G B 205 q.1 q.2) 0 0 (fr B) := by
  refine mk_Met (own := RX9) rfl rfl (Nat.le_of_ble_eq_true rfl) ?_
  intro p e s m below meth c ls cx hr hlk wo hl
  have hl : lv_has ls 2 [(0, .ref (B + 1))] := hl
  unfold fX9_fits at hf
  refine lv_aload_n cx.1 cx.2.1 dX9_fits_0 rfl (lv_at hl 0 rfl) ?_
  obtain ⟨q1, e2, hf⟩ := bd_elim hf
  refine r_Vi (rest := []) cx wo (mX9_fittingBoats l e2) cvX9_361 rfl ad_1.1 ad_1.2.1 ad_1.2.2 rfl rfl hl.1 rfl (Nat.le_of_ble_eq_true rfl) (hR_ok (by decide)) dX9_fits_1 (fun H locs wo => ?_)
  refine lv_istore_n (lv' := [(1, .int q1.1), (0, .ref (B + 1))]) cx.1 cx.2.1 dX9_fits_4 rfl hl (by decide) rfl (fun ls hl => ?_)
  refine lv_aload_n cx.1 cx.2.1 dX9_fits_5 rfl (lv_at hl 1 rfl) ?_
  refine r_getR cx wo ad_1.1 ad_1.2.1 ad_1.2.2 fiX9_19 (fn_1_1 wo.2.2.2.1) (by decide) dX9_fits_6 ?_
  refine lv_iload_n cx.1 cx.2.1 dX9_fits_9 rfl (lv_at hl 0 rfl) ?_
  obtain ⟨q3, e4, hf⟩ := bd_elim hf
  refine r_Si (rest := [.ref (B + 4)]) cx wo (mBC l e4) csX9_364 rfl hl.1 rfl (Nat.le_of_ble_eq_true rfl) (hR_ok (by decide)) dX9_fits_10 (fun H locs wo => ?_)
  refine lv_i2l (v := q3.1.toInt64) cx.1 cx.2.1 dX9_fits_13 rfl ?_
  obtain ⟨q5, e6, hf⟩ := bd_elim hf
  refine r_Vv (rest := []) cx wo (mX5_tell l e6) cvX9_186 rfl ad_4.1 ad_4.2.1 ad_4.2.2 rfl rfl hl.1 rfl (Nat.le_of_ble_eq_true rfl) (hR_ok (by decide)) dX9_fits_14 (fun H locs wo => ?_)
  refine lv_iload_n cx.1 cx.2.1 dX9_fits_17 rfl (lv_at hl 0 rfl) ?_
  have hq := Option.some.inj hf
  subst hq
  exact r_iret cx wo hr hlk dX9_fits_18
set_option maxHeartbeats 1000000 in
set_option maxRecDepth 10000 in
theorem wX9_asks_44 (cx : Cx p s m args c cX9_asks 9 RX9 G) (hr : meth.sig.returnType = (some .int)) (hlk : meth.locks = false) {k27 : Int32 → Int32 → Int32 → Int32 → Int32 → Mem → Option (Int32 × Mem)} (hk27 : ∀ (x1 : Int32) (x2 : Int32) (x3 : Int32) (x4 : Int32) (x5 : Int32)  (M : Mem) (q : Int32 × Mem), k27 x1 x2 x3 x4 x5 M = some q → ∀ (H : Heap) (locs : List Loc) (ls : Array Slot), Wo Ph G B 205 s M H locs → lv_has ls 9 [(0, .ref (B + 1)), (1, .int x1), (2, .int x2), (3, .int x3), (4, .int x4), (5, .int x5)] → W p l e (rmN (8)) s m args below meth c H locs 0 0 (MQ below (QcI Ph G B 205 q.1 q.2) args s 0 0 (fr B)) (F0 m 27 ls [])) : ∀ (n : Nat) (x1 : Int32) (x2 : Int32) (x3 : Int32) (x4 : Int32) (x5 : Int32) (x6 : Int32)  (M : Mem) (q : Int32 × Mem), fX9_asks_44 k27 n x1 x2 x3 x4 x5 x6 M = some q → ∀ (H : Heap) (locs : List Loc) (ls : Array Slot), Wo Ph G B 205 s M H locs → lv_has ls 9 [(0, .ref (B + 1)), (1, .int x1), (2, .int x2), (3, .int x3), (4, .int x4), (5, .int x5), (6, .int x6)] → W p l e (rmN (8)) s m args below meth c H locs 0 0 (MQ below (QcI Ph G B 205 q.1 q.2) args s 0 0 (fr B)) (F0 m 44 ls []) := by
  intro n
  induction n with
  | zero =>
    intro x1 x2 x3 x4 x5 x6 M q hf H locs ls wo hl
    have hf : none = some q := hf
    cases hf
  | succ n ih =>
    intro x1 x2 x3 x4 x5 x6 M q hf H locs ls wo hl
    rw [fX9_asks_44] at hf
    refine lv_iload cx.1 cx.2.1 dX9_asks_44 (lv_at hl 6 rfl) ?_
    refine r_gst1 cx wo ksX9_372 dX9_asks_46 ?_
    refine lv_iload cx.1 cx.2.1 dX9_asks_49 (lv_at hl 5 rfl) ?_
    obtain ⟨g14, hf⟩ := gd_elim hf
    refine r_tld1 cx wo g14 dX9_asks_51 ?_
    refine lv_icmp_gt (tgt := 106) cx.1 cx.2.1 dX9_asks_52 (by decide) (fun c15 => ?_) (fun c15 => ?_)
    · rw [if_pos c15] at hf
      obtain ⟨y16, e17, hf⟩ := lt_elim hf
      refine lv_iinc (v := y16) (lv' := [(5, .int y16), (0, .ref (B + 1)), (1, .int x1), (2, .int x2), (3, .int x3), (4, .int x4), (6, .int x6)]) cx.1 cx.2.1 dX9_asks_106 hl (k := 5) rfl (by rw [e17]; rfl) (by decide) rfl (fun ls hl => ?_)
      refine lv_goto (tgt := 27) cx.1 cx.2.1 dX9_asks_109 (by decide) ?_
      exact hk27 _ _ _ _ _ _ _ hf _ _ _ wo (lv_sub hl [1, 2, 3, 4, 5, 0] rfl)
    · rw [if_neg c15] at hf
      refine lv_iload_n cx.1 cx.2.1 dX9_asks_55 rfl (lv_at hl 1 rfl) ?_
      refine lv_aload_n cx.1 cx.2.1 dX9_asks_56 rfl (lv_at hl 0 rfl) ?_
      refine lv_iload cx.1 cx.2.1 dX9_asks_57 (lv_at hl 5 rfl) ?_
      refine lv_iload cx.1 cx.2.1 dX9_asks_59 (lv_at hl 6 rfl) ?_
      obtain ⟨q18, e19, hf⟩ := bd_elim hf
      refine r_Vi (rest := [.int x1]) cx wo (mX9_boatsOfWhich l e19) cvX9_375 rfl ad_1.1 ad_1.2.1 ad_1.2.2 rfl rfl hl.1 rfl (Nat.le_of_ble_eq_true rfl) (hR_ok (by decide)) dX9_asks_61 (fun H locs wo => ?_)
      refine lv_iand cx.1 cx.2.1 dX9_asks_64 ?_
      obtain ⟨q20, e21, hf⟩ := bd_elim hf
      refine r_Si (rest := []) cx wo (mBC l e21) csX9_364 rfl hl.1 rfl (Nat.le_of_ble_eq_true rfl) (hR_ok (by decide)) dX9_asks_65 (fun H locs wo => ?_)
      refine lv_istore (lv' := [(7, .int q20.1), (0, .ref (B + 1)), (1, .int x1), (2, .int x2), (3, .int x3), (4, .int x4), (5, .int x5), (6, .int x6)]) cx.1 cx.2.1 dX9_asks_68 hl (by decide) rfl (fun ls hl => ?_)
      refine lv_iload cx.1 cx.2.1 dX9_asks_70 (lv_at hl 0 rfl) ?_
      refine lv_iload_n cx.1 cx.2.1 dX9_asks_72 rfl (lv_at hl 3 rfl) ?_
      refine lv_iload cx.1 cx.2.1 dX9_asks_73 (lv_at hl 0 rfl) ?_
      refine lv_isub cx.1 cx.2.1 dX9_asks_75 ?_
      refine r_mmax cx hl.1 mmX9_378 (by decide) (Nat.le_of_ble_eq_true rfl) (Nat.zero_le _) (Nat.zero_le _) dX9_asks_76 ?_
      obtain ⟨y22, e23, hf⟩ := lt_elim hf
      refine r_topi e23 ?_
      refine lv_istore (lv' := [(8, .int y22), (7, .int q20.1), (0, .ref (B + 1)), (1, .int x1), (2, .int x2), (3, .int x3), (4, .int x4), (5, .int x5), (6, .int x6)]) cx.1 cx.2.1 dX9_asks_79 hl (by decide) rfl (fun ls hl => ?_)
      refine lv_iload cx.1 cx.2.1 dX9_asks_81 (lv_at hl 0 rfl) ?_
      refine lv_iload_n cx.1 cx.2.1 dX9_asks_83 rfl (lv_at hl 5 rfl) ?_
      refine lv_icmp_ge (tgt := 100) cx.1 cx.2.1 dX9_asks_84 (by decide) (fun c24 => ?_) (fun c24 => ?_)
      · rw [if_pos c24] at hf
        obtain ⟨y25, e26, hf⟩ := lt_elim hf
        refine lv_iinc (v := y25) (lv' := [(6, .int y25), (8, .int y22), (7, .int q20.1), (0, .ref (B + 1)), (1, .int x1), (2, .int x2), (3, .int x3), (4, .int x4), (5, .int x5)]) cx.1 cx.2.1 dX9_asks_100 hl (k := 8) rfl (by rw [e26]; rfl) (by decide) rfl (fun ls hl => ?_)
        refine lv_goto (tgt := 44) cx.1 cx.2.1 dX9_asks_103 (by decide) ?_
        exact ih _ _ _ _ _ _ _ _ hf _ _ _ wo (lv_sub hl [3, 4, 5, 6, 7, 8, 0] rfl)
      · rw [if_neg c24] at hf
        refine lv_iload cx.1 cx.2.1 dX9_asks_87 (lv_at hl 0 rfl) ?_
        refine lv_istore_n (lv' := [(3, .int y22), (8, .int y22), (7, .int q20.1), (0, .ref (B + 1)), (1, .int x1), (2, .int x2), (4, .int x4), (5, .int x5), (6, .int x6)]) cx.1 cx.2.1 dX9_asks_89 rfl hl (by decide) rfl (fun ls hl => ?_)
        refine lv_bipush (v := 10) cx.1 cx.2.1 dX9_asks_90 (by decide) ?_
        refine lv_iload cx.1 cx.2.1 dX9_asks_92 (lv_at hl 7 rfl) ?_
        refine lv_imul cx.1 cx.2.1 dX9_asks_94 ?_
        refine lv_iload cx.1 cx.2.1 dX9_asks_95 (lv_at hl 8 rfl) ?_
        refine lv_iadd cx.1 cx.2.1 dX9_asks_97 ?_
        obtain ⟨y27, e28, hf⟩ := lt_elim hf
        refine r_topi e28 ?_
        refine lv_istore (lv' := [(4, .int y27), (3, .int y22), (8, .int y22), (7, .int q20.1), (0, .ref (B + 1)), (1, .int x1), (2, .int x2), (5, .int x5), (6, .int x6)]) cx.1 cx.2.1 dX9_asks_98 hl (by decide) rfl (fun ls hl => ?_)
        obtain ⟨y29, e30, hf⟩ := lt_elim hf
        refine lv_iinc (v := y29) (lv' := [(6, .int y29), (4, .int y27), (3, .int y22), (8, .int y22), (7, .int q20.1), (0, .ref (B + 1)), (1, .int x1), (2, .int x2), (5, .int x5)]) cx.1 cx.2.1 dX9_asks_100 hl (k := 8) rfl (by rw [e30]; rfl) (by decide) rfl (fun ls hl => ?_)
        refine lv_goto (tgt := 44) cx.1 cx.2.1 dX9_asks_103 (by decide) ?_
        exact ih _ _ _ _ _ _ _ _ hf _ _ _ wo (lv_sub hl [5, 6, 7, 2, 1, 8, 0] rfl)
set_option maxHeartbeats 1000000 in
set_option maxRecDepth 10000 in
theorem wX9_asks_27 (cx : Cx p s m args c cX9_asks 9 RX9 G) (hr : meth.sig.returnType = (some .int)) (hlk : meth.locks = false) : ∀ (n : Nat) (x1 : Int32) (x2 : Int32) (x3 : Int32) (x4 : Int32) (x5 : Int32)  (M : Mem) (q : Int32 × Mem), fX9_asks_27 n x1 x2 x3 x4 x5 M = some q → ∀ (H : Heap) (locs : List Loc) (ls : Array Slot), Wo Ph G B 205 s M H locs → lv_has ls 9 [(0, .ref (B + 1)), (1, .int x1), (2, .int x2), (3, .int x3), (4, .int x4), (5, .int x5)] → W p l e (rmN (8)) s m args below meth c H locs 0 0 (MQ below (QcI Ph G B 205 q.1 q.2) args s 0 0 (fr B)) (F0 m 27 ls []) := by
  intro n
  induction n with
  | zero =>
    intro x1 x2 x3 x4 x5 M q hf H locs ls wo hl
    have hf : none = some q := hf
    cases hf
  | succ n ih =>
    intro x1 x2 x3 x4 x5 M q hf H locs ls wo hl
    rw [fX9_asks_27] at hf
    refine lv_iload cx.1 cx.2.1 dX9_asks_27 (lv_at hl 5 rfl) ?_
    refine r_gst0 cx wo ksX9_369 dX9_asks_29 ?_
    refine r_tln0 cx wo dX9_asks_32 ?_
    refine lv_icmp_ge (tgt := 112) cx.1 cx.2.1 dX9_asks_33 (by decide) (fun c8 => ?_) (fun c8 => ?_)
    · rw [if_pos c8] at hf
      refine lv_aload_n cx.1 cx.2.1 dX9_asks_112 rfl (lv_at hl 0 rfl) ?_
      refine r_getR cx wo ad_1.1 ad_1.2.1 ad_1.2.2 fiX9_19 (fn_1_1 wo.2.2.2.1) (by decide) dX9_asks_113 ?_
      refine lv_iload_n cx.1 cx.2.1 dX9_asks_116 rfl (lv_at hl 3 rfl) ?_
      refine lv_i2l (v := x3.toInt64) cx.1 cx.2.1 dX9_asks_117 rfl ?_
      obtain ⟨q9, e10, hf⟩ := bd_elim hf
      refine r_Vv (rest := []) cx wo (mX5_tell l e10) cvX9_186 rfl ad_4.1 ad_4.2.1 ad_4.2.2 rfl rfl hl.1 rfl (Nat.le_of_ble_eq_true rfl) (hR_ok (by decide)) dX9_asks_118 (fun H locs wo => ?_)
      refine lv_iload cx.1 cx.2.1 dX9_asks_121 (lv_at hl 4 rfl) ?_
      have hq := Option.some.inj hf
      subst hq
      exact r_iret cx wo hr hlk dX9_asks_123
    · rw [if_neg c8] at hf
      refine r_gst0 cx wo ksX9_369 dX9_asks_36 ?_
      refine lv_iload cx.1 cx.2.1 dX9_asks_39 (lv_at hl 5 rfl) ?_
      obtain ⟨g11, hf⟩ := gd_elim hf
      refine r_tld0 cx wo g11 dX9_asks_41 ?_
      obtain ⟨y12, e13, hf⟩ := lt_elim hf
      refine r_topi e13 ?_
      refine lv_istore (lv' := [(6, .int y12), (0, .ref (B + 1)), (1, .int x1), (2, .int x2), (3, .int x3), (4, .int x4), (5, .int x5)]) cx.1 cx.2.1 dX9_asks_42 hl (by decide) rfl (fun ls hl => ?_)
      exact wX9_asks_44 cx hr hlk ih _ _ _ _ _ _ _ _ _ hf _ _ _ wo (lv_sub hl [1, 2, 3, 4, 5, 6, 0] rfl)
set_option maxHeartbeats 1000000 in
set_option maxRecDepth 10000 in
theorem mX9_asks (l : Launch) {G : GG} {B : Nat}   {M : Mem} {q : Int32 × Mem} (hf : fX9_asks  M = some q) : Met l yX9_asks (wsG yX9_asks cX9_asks 9 (some .int)) (rmN (8)) (PcW Ph G B 205 M [.ref (B + 1)]) (QcI Ph G B 205 q.1 q.2) 0 0 (fr B) := by
  refine mk_Met (own := RX9) rfl rfl (Nat.le_of_ble_eq_true rfl) ?_
  intro p e s m below meth c ls cx hr hlk wo hl
  have hl : lv_has ls 9 [(0, .ref (B + 1))] := hl
  unfold fX9_asks at hf
  refine lv_aload_n cx.1 cx.2.1 dX9_asks_0 rfl (lv_at hl 0 rfl) ?_
  obtain ⟨q1, e2, hf⟩ := bd_elim hf
  refine r_Vi (rest := []) cx wo (mX9_fittingBoats l e2) cvX9_361 rfl ad_1.1 ad_1.2.1 ad_1.2.2 rfl rfl hl.1 rfl (Nat.le_of_ble_eq_true rfl) (hR_ok (by decide)) dX9_asks_1 (fun H locs wo => ?_)
  refine lv_istore_n (lv' := [(1, .int q1.1), (0, .ref (B + 1))]) cx.1 cx.2.1 dX9_asks_4 rfl hl (by decide) rfl (fun ls hl => ?_)
  refine lv_iload_n cx.1 cx.2.1 dX9_asks_5 rfl (lv_at hl 0 rfl) ?_
  refine lv_if_ne (tgt := 12) cx.1 cx.2.1 dX9_asks_6 (by decide) (fun c3 => ?_) (fun c3 => ?_)
  · rw [if_neg c3] at hf
    refine lv_iload_n cx.1 cx.2.1 dX9_asks_12 rfl (lv_at hl 0 rfl) ?_
    obtain ⟨q4, e5, hf⟩ := bd_elim hf
    refine r_Si (rest := []) cx wo (mBC l e5) csX9_364 rfl hl.1 rfl (Nat.le_of_ble_eq_true rfl) (hR_ok (by decide)) dX9_asks_13 (fun H locs wo => ?_)
    refine lv_istore_n (lv' := [(2, .int q4.1), (1, .int q1.1), (0, .ref (B + 1))]) cx.1 cx.2.1 dX9_asks_16 rfl hl (by decide) rfl (fun ls hl => ?_)
    refine lv_iload_n cx.1 cx.2.1 dX9_asks_17 rfl (lv_at hl 0 rfl) ?_
    refine lv_iconst (v := 1) cx.1 cx.2.1 dX9_asks_18 (by decide) ?_
    refine lv_iadd cx.1 cx.2.1 dX9_asks_19 ?_
    obtain ⟨y6, e7, hf⟩ := lt_elim hf
    refine r_topi e7 ?_
    refine lv_istore_n (lv' := [(3, .int y6), (2, .int q4.1), (1, .int q1.1), (0, .ref (B + 1))]) cx.1 cx.2.1 dX9_asks_20 rfl hl (by decide) rfl (fun ls hl => ?_)
    refine lv_iconst (v := (-1)) cx.1 cx.2.1 dX9_asks_21 (by decide) ?_
    refine lv_istore (lv' := [(4, .int (-1)), (3, .int y6), (2, .int q4.1), (1, .int q1.1), (0, .ref (B + 1))]) cx.1 cx.2.1 dX9_asks_22 hl (by decide) rfl (fun ls hl => ?_)
    refine lv_iconst (v := 0) cx.1 cx.2.1 dX9_asks_24 (by decide) ?_
    refine lv_istore (lv' := [(5, .int 0), (4, .int (-1)), (3, .int y6), (2, .int q4.1), (1, .int q1.1), (0, .ref (B + 1))]) cx.1 cx.2.1 dX9_asks_25 hl (by decide) rfl (fun ls hl => ?_)
    exact wX9_asks_27 cx hr hlk _ _ _ _ _ _ _ _ hf _ _ _ wo (lv_sub hl [5, 4, 3, 2, 1, 0] rfl)
  · rw [if_pos c3] at hf
    refine lv_bipush (v := (-2)) cx.1 cx.2.1 dX9_asks_9 (by decide) ?_
    have hq := Option.some.inj hf
    subst hq
    exact r_iret cx wo hr hlk dX9_asks_11
set_option maxHeartbeats 1000000 in
set_option maxRecDepth 10000 in
theorem wX9_weightOf_5 (cx : Cx p s m args c cX9_weightOf 5 RX9 G) (hr : meth.sig.returnType = (some .int)) (hlk : meth.locks = false) : ∀ (n : Nat) (x1 : Int32) (x2 : Int32) (x3 : Int32) (x4 : Int32)  (M : Mem) (q : Int32 × Mem), fX9_weightOf_5 n x1 x2 x3 x4 M = some q → ∀ (H : Heap) (locs : List Loc) (ls : Array Slot), Wo Ph G B 205 s M H locs → lv_has ls 5 [(0, .ref (B + 1)), (1, .int x1), (2, .int x2), (3, .int x3), (4, .int x4)] → W p l e (rmN (2)) s m args below meth c H locs 0 0 (MQ below (QcI Ph G B 205 q.1 q.2) args s 0 0 (fr B)) (F0 m 5 ls []) := by
  intro n
  induction n with
  | zero =>
    intro x1 x2 x3 x4 M q hf H locs ls wo hl
    have hf : none = some q := hf
    cases hf
  | succ n ih =>
    intro x1 x2 x3 x4 M q hf H locs ls wo hl
    rw [fX9_weightOf_5] at hf
    refine lv_iload cx.1 cx.2.1 dX9_weightOf_5 (lv_at hl 4 rfl) ?_
    refine lv_aload_n cx.1 cx.2.1 dX9_weightOf_7 rfl (lv_at hl 0 rfl) ?_
    refine r_getR cx wo ad_1.1 ad_1.2.1 ad_1.2.2 fiX9_26 (fn_1_2 wo.2.2.2.1) (by decide) dX9_weightOf_8 ?_
    refine r_getI cx wo ad_6.1 ad_6.2.1 ad_6.2.2 fiX9_282 dX9_weightOf_11 ?_
    refine lv_icmp_ge (tgt := 43) cx.1 cx.2.1 dX9_weightOf_14 (by decide) (fun c1 => ?_) (fun c1 => ?_)
    · rw [if_pos c1] at hf
      refine lv_iload_n cx.1 cx.2.1 dX9_weightOf_43 rfl (lv_at hl 3 rfl) ?_
      have hq := Option.some.inj hf
      subst hq
      exact r_iret cx wo hr hlk dX9_weightOf_44
    · rw [if_neg c1] at hf
      refine lv_iload_n cx.1 cx.2.1 dX9_weightOf_17 rfl (lv_at hl 3 rfl) ?_
      refine lv_iload_n cx.1 cx.2.1 dX9_weightOf_18 rfl (lv_at hl 1 rfl) ?_
      refine lv_iload cx.1 cx.2.1 dX9_weightOf_19 (lv_at hl 4 rfl) ?_
      refine lv_ishr cx.1 cx.2.1 dX9_weightOf_21 ?_
      refine lv_iconst (v := 1) cx.1 cx.2.1 dX9_weightOf_22 (by decide) ?_
      refine lv_iand cx.1 cx.2.1 dX9_weightOf_23 ?_
      refine lv_if_eq (tgt := 31) cx.1 cx.2.1 dX9_weightOf_24 (by decide) (fun c2 => ?_) (fun c2 => ?_)
      · rw [if_pos c2] at hf
        refine lv_bipush (v := 10) cx.1 cx.2.1 dX9_weightOf_31 (by decide) ?_
        refine lv_iload_n cx.1 cx.2.1 dX9_weightOf_33 rfl (lv_at hl 2 rfl) ?_
        refine lv_isub cx.1 cx.2.1 dX9_weightOf_34 ?_
        refine lv_imul cx.1 cx.2.1 dX9_weightOf_35 ?_
        obtain ⟨y3, e4, hf⟩ := lt_elim hf
        refine r_topi e4 ?_
        refine lv_istore_n (lv' := [(3, .int y3), (0, .ref (B + 1)), (1, .int x1), (2, .int x2), (4, .int x4)]) cx.1 cx.2.1 dX9_weightOf_36 rfl hl (by decide) rfl (fun ls hl => ?_)
        obtain ⟨y5, e6, hf⟩ := lt_elim hf
        refine lv_iinc (v := y5) (lv' := [(4, .int y5), (3, .int y3), (0, .ref (B + 1)), (1, .int x1), (2, .int x2)]) cx.1 cx.2.1 dX9_weightOf_37 hl (k := 4) rfl (by rw [e6]; rfl) (by decide) rfl (fun ls hl => ?_)
        refine lv_goto (tgt := 5) cx.1 cx.2.1 dX9_weightOf_40 (by decide) ?_
        exact ih _ _ _ _ _ _ hf _ _ _ wo (lv_sub hl [2, 3, 4, 1, 0] rfl)
      · rw [if_neg c2] at hf
        refine lv_iload_n cx.1 cx.2.1 dX9_weightOf_27 rfl (lv_at hl 2 rfl) ?_
        refine lv_goto (tgt := 35) cx.1 cx.2.1 dX9_weightOf_28 (by decide) ?_
        refine lv_imul cx.1 cx.2.1 dX9_weightOf_35 ?_
        obtain ⟨y7, e8, hf⟩ := lt_elim hf
        refine r_topi e8 ?_
        refine lv_istore_n (lv' := [(3, .int y7), (0, .ref (B + 1)), (1, .int x1), (2, .int x2), (4, .int x4)]) cx.1 cx.2.1 dX9_weightOf_36 rfl hl (by decide) rfl (fun ls hl => ?_)
        obtain ⟨y9, e10, hf⟩ := lt_elim hf
        refine lv_iinc (v := y9) (lv' := [(4, .int y9), (3, .int y7), (0, .ref (B + 1)), (1, .int x1), (2, .int x2)]) cx.1 cx.2.1 dX9_weightOf_37 hl (k := 4) rfl (by rw [e10]; rfl) (by decide) rfl (fun ls hl => ?_)
        refine lv_goto (tgt := 5) cx.1 cx.2.1 dX9_weightOf_40 (by decide) ?_
        exact ih _ _ _ _ _ _ hf _ _ _ wo (lv_sub hl [2, 3, 4, 1, 0] rfl)
set_option maxHeartbeats 1000000 in
set_option maxRecDepth 10000 in
theorem mX9_weightOf (l : Launch) {G : GG} {B : Nat} {x1 : Int32} {x2 : Int32}  {M : Mem} {q : Int32 × Mem} (hf : fX9_weightOf x1 x2 M = some q) : Met l yX9_weightOf (wsG yX9_weightOf cX9_weightOf 5 (some .int)) (rmN (2)) (PcW Ph G B 205 M [.ref (B + 1), .int x1, .int x2]) (QcI Ph G B 205 q.1 q.2) 0 0 (fr B) := by
  refine mk_Met (own := RX9) rfl rfl (Nat.le_of_ble_eq_true rfl) ?_
  intro p e s m below meth c ls cx hr hlk wo hl
  have hl : lv_has ls 5 [(0, .ref (B + 1)), (1, .int x1), (2, .int x2)] := hl
  unfold fX9_weightOf at hf
  refine lv_iconst (v := 1) cx.1 cx.2.1 dX9_weightOf_0 (by decide) ?_
  refine lv_istore_n (lv' := [(3, .int 1), (0, .ref (B + 1)), (1, .int x1), (2, .int x2)]) cx.1 cx.2.1 dX9_weightOf_1 rfl hl (by decide) rfl (fun ls hl => ?_)
  refine lv_iconst (v := 0) cx.1 cx.2.1 dX9_weightOf_2 (by decide) ?_
  refine lv_istore (lv' := [(4, .int 0), (3, .int 1), (0, .ref (B + 1)), (1, .int x1), (2, .int x2)]) cx.1 cx.2.1 dX9_weightOf_3 hl (by decide) rfl (fun ls hl => ?_)
  exact wX9_weightOf_5 cx hr hlk _ _ _ _ _ _ _ hf _ _ _ wo (lv_sub hl [2, 3, 4, 1, 0] rfl)
set_option maxHeartbeats 1000000 in
set_option maxRecDepth 10000 in
theorem wX9_rowBetter_2 (cx : Cx p s m args c cX9_rowBetter 3 RX9 G) (hr : meth.sig.returnType = none) (hlk : meth.locks = false) : ∀ (n : Nat) (x1 : Int32) (x2 : Int32)  (M : Mem) (q : Mem), fX9_rowBetter_2 n x1 x2 M = some q → ∀ (H : Heap) (locs : List Loc) (ls : Array Slot), Wo Ph G B 205 s M H locs → lv_has ls 3 [(0, .ref (B + 1)), (1, .int x1), (2, .int x2)] → W p l e (rmN (2)) s m args below meth c H locs 0 0 (MQ below (QcV Ph G B 205 q) args s 0 0 (fr B)) (F0 m 2 ls []) := by
  intro n
  induction n with
  | zero =>
    intro x1 x2 M q hf H locs ls wo hl
    have hf : none = some q := hf
    cases hf
  | succ n ih =>
    intro x1 x2 M q hf H locs ls wo hl
    rw [fX9_rowBetter_2] at hf
    refine lv_iload_n cx.1 cx.2.1 dX9_rowBetter_2 rfl (lv_at hl 2 rfl) ?_
    refine lv_aload_n cx.1 cx.2.1 dX9_rowBetter_3 rfl (lv_at hl 0 rfl) ?_
    refine r_getR cx wo ad_1.1 ad_1.2.1 ad_1.2.2 fiX9_26 (fn_1_2 wo.2.2.2.1) (by decide) dX9_rowBetter_4 ?_
    refine r_getI cx wo ad_6.1 ad_6.2.1 ad_6.2.2 fiX9_282 dX9_rowBetter_7 ?_
    refine lv_icmp_ge (tgt := 43) cx.1 cx.2.1 dX9_rowBetter_10 (by decide) (fun c1 => ?_) (fun c1 => ?_)
    · rw [if_pos c1] at hf
      have hq := Option.some.inj hf
      subst hq
      exact r_vret cx wo hr hlk dX9_rowBetter_43
    · rw [if_neg c1] at hf
      refine lv_aload_n cx.1 cx.2.1 dX9_rowBetter_13 rfl (lv_at hl 0 rfl) ?_
      refine r_getR cx wo ad_1.1 ad_1.2.1 ad_1.2.2 fiX9_33 (fn_1_4 wo.2.2.2.1) (by decide) dX9_rowBetter_14 ?_
      refine r_getR cx wo ad_16.1 ad_16.2.1 ad_16.2.2 fiX9_145 (fn_16_1 wo.2.2.2.1) (by decide) dX9_rowBetter_17 ?_
      refine lv_iload_n cx.1 cx.2.1 dX9_rowBetter_20 rfl (lv_at hl 2 rfl) ?_
      refine lv_aload_n cx.1 cx.2.1 dX9_rowBetter_21 rfl (lv_at hl 0 rfl) ?_
      refine r_getR cx wo ad_1.1 ad_1.2.1 ad_1.2.2 fiX9_26 (fn_1_2 wo.2.2.2.1) (by decide) dX9_rowBetter_22 ?_
      refine r_getR cx wo ad_6.1 ad_6.2.1 ad_6.2.2 fiX9_145 (fn_6_1 wo.2.2.2.1) (by decide) dX9_rowBetter_25 ?_
      refine lv_iload_n cx.1 cx.2.1 dX9_rowBetter_28 rfl (lv_at hl 2 rfl) ?_
      obtain ⟨g2, hf⟩ := gd_elim hf
      refine r_iald cx wo ad_7.1 ad_7.2.1 ad_7.2.2 (by rw [ln_7]; exact g2) dX9_rowBetter_29 ?_
      refine lv_iload_n cx.1 cx.2.1 dX9_rowBetter_30 rfl (lv_at hl 1 rfl) ?_
      refine lv_iload_n cx.1 cx.2.1 dX9_rowBetter_31 rfl (lv_at hl 2 rfl) ?_
      refine lv_ishr cx.1 cx.2.1 dX9_rowBetter_32 ?_
      refine lv_iconst (v := 1) cx.1 cx.2.1 dX9_rowBetter_33 (by decide) ?_
      refine lv_iand cx.1 cx.2.1 dX9_rowBetter_34 ?_
      refine lv_iadd cx.1 cx.2.1 dX9_rowBetter_35 ?_
      obtain ⟨g3, hf⟩ := gd_elim hf
      obtain ⟨M4, e5, hf⟩ := lt_elim hf
      refine r_iast cx wo ad_17.1 ad_17.2.1 ad_17.2.2 (by rw [ln_17]; exact g3) dX9_rowBetter_36 (fun H locs wo => ?_)
      rw [← e5] at wo
      obtain ⟨y6, e7, hf⟩ := lt_elim hf
      refine lv_iinc (v := y6) (lv' := [(2, .int y6), (0, .ref (B + 1)), (1, .int x1)]) cx.1 cx.2.1 dX9_rowBetter_37 hl (k := 2) rfl (by rw [e7]; rfl) (by decide) rfl (fun ls hl => ?_)
      refine lv_goto (tgt := 2) cx.1 cx.2.1 dX9_rowBetter_40 (by decide) ?_
      exact ih _ _ _ _ hf _ _ _ wo (lv_sub hl [1, 2, 0] rfl)
set_option maxHeartbeats 1000000 in
set_option maxRecDepth 10000 in
theorem mX9_rowBetter (l : Launch) {G : GG} {B : Nat} {x1 : Int32}  {M : Mem} {q : Mem} (hf : fX9_rowBetter x1 M = some q) : Met l yX9_rowBetter (wsG yX9_rowBetter cX9_rowBetter 3 none) (rmN (2)) (PcW Ph G B 205 M [.ref (B + 1), .int x1]) (QcV Ph G B 205 q) 0 0 (fr B) := by
  refine mk_Met (own := RX9) rfl rfl (Nat.le_of_ble_eq_true rfl) ?_
  intro p e s m below meth c ls cx hr hlk wo hl
  have hl : lv_has ls 3 [(0, .ref (B + 1)), (1, .int x1)] := hl
  unfold fX9_rowBetter at hf
  refine lv_iconst (v := 0) cx.1 cx.2.1 dX9_rowBetter_0 (by decide) ?_
  refine lv_istore_n (lv' := [(2, .int 0), (0, .ref (B + 1)), (1, .int x1)]) cx.1 cx.2.1 dX9_rowBetter_1 rfl hl (by decide) rfl (fun ls hl => ?_)
  exact wX9_rowBetter_2 cx hr hlk _ _ _ _ _ hf _ _ _ wo (lv_sub hl [1, 2, 0] rfl)
set_option maxHeartbeats 1000000 in
set_option maxRecDepth 10000 in
theorem wX9_greatestDivisor_7 (cx : Cx p s m args c cX9_greatestDivisor 6 RX9 G) (hr : meth.sig.returnType = (some .int)) (hlk : meth.locks = false) : ∀ (n : Nat) (x2 : Int32) (x3 : Int32) (x4 : Int32)  (M : Mem) (q : Int32 × Mem), fX9_greatestDivisor_7 n x2 x3 x4 M = some q → ∀ (H : Heap) (locs : List Loc) (ls : Array Slot), Wo Ph G B 205 s M H locs → lv_has ls 6 [(2, .int x2), (3, .int x3), (4, .int x4)] → W p l e (rmN (2)) s m args below meth c H locs 0 0 (MQ below (QcI Ph G B 205 q.1 q.2) args s 0 0 (fr B)) (F0 m 7 ls []) := by
  intro n
  induction n with
  | zero =>
    intro x2 x3 x4 M q hf H locs ls wo hl
    have hf : none = some q := hf
    cases hf
  | succ n ih =>
    intro x2 x3 x4 M q hf H locs ls wo hl
    rw [fX9_greatestDivisor_7] at hf
    refine lv_iload cx.1 cx.2.1 dX9_greatestDivisor_7 (lv_at hl 2 rfl) ?_
    refine lv_bipush (v := 64) cx.1 cx.2.1 dX9_greatestDivisor_9 (by decide) ?_
    refine lv_icmp_ge (tgt := 34) cx.1 cx.2.1 dX9_greatestDivisor_11 (by decide) (fun c1 => ?_) (fun c1 => ?_)
    · rw [if_pos c1] at hf
      refine lv_iload_n cx.1 cx.2.1 dX9_greatestDivisor_34 rfl (lv_at hl 0 rfl) ?_
      have hq := Option.some.inj hf
      subst hq
      exact r_iret cx wo hr hlk dX9_greatestDivisor_35
    · rw [if_neg c1] at hf
      refine lv_iload_n cx.1 cx.2.1 dX9_greatestDivisor_14 rfl (lv_at hl 1 rfl) ?_
      refine lv_if_eq (tgt := 34) cx.1 cx.2.1 dX9_greatestDivisor_15 (by decide) (fun c2 => ?_) (fun c2 => ?_)
      · rw [if_pos c2] at hf
        refine lv_iload_n cx.1 cx.2.1 dX9_greatestDivisor_34 rfl (lv_at hl 0 rfl) ?_
        have hq := Option.some.inj hf
        subst hq
        exact r_iret cx wo hr hlk dX9_greatestDivisor_35
      · rw [if_neg c2] at hf
        refine lv_iload_n cx.1 cx.2.1 dX9_greatestDivisor_18 rfl (lv_at hl 0 rfl) ?_
        refine lv_iload_n cx.1 cx.2.1 dX9_greatestDivisor_19 rfl (lv_at hl 1 rfl) ?_
        obtain ⟨g3, hf⟩ := gd_elim hf
        refine lv_irem cx.1 cx.2.1 dX9_greatestDivisor_20 g3 ?_
        obtain ⟨y4, e5, hf⟩ := lt_elim hf
        refine r_topi e5 ?_
        refine lv_istore (lv' := [(5, .int y4), (2, .int x2), (3, .int x3), (4, .int x4)]) cx.1 cx.2.1 dX9_greatestDivisor_21 hl (by decide) rfl (fun ls hl => ?_)
        refine lv_iload_n cx.1 cx.2.1 dX9_greatestDivisor_23 rfl (lv_at hl 2 rfl) ?_
        refine lv_istore_n (lv' := [(2, .int x3), (5, .int y4), (3, .int x3), (4, .int x4)]) cx.1 cx.2.1 dX9_greatestDivisor_24 rfl hl (by decide) rfl (fun ls hl => ?_)
        refine lv_iload cx.1 cx.2.1 dX9_greatestDivisor_25 (lv_at hl 1 rfl) ?_
        refine lv_istore_n (lv' := [(3, .int y4), (2, .int x3), (5, .int y4), (4, .int x4)]) cx.1 cx.2.1 dX9_greatestDivisor_27 rfl hl (by decide) rfl (fun ls hl => ?_)
        obtain ⟨y6, e7, hf⟩ := lt_elim hf
        refine lv_iinc (v := y6) (lv' := [(4, .int y6), (3, .int y4), (2, .int x3), (5, .int y4)]) cx.1 cx.2.1 dX9_greatestDivisor_28 hl (k := 3) rfl (by rw [e7]; rfl) (by decide) rfl (fun ls hl => ?_)
        refine lv_goto (tgt := 7) cx.1 cx.2.1 dX9_greatestDivisor_31 (by decide) ?_
        exact ih _ _ _ _ _ hf _ _ _ wo (lv_sub hl [2, 1, 0] rfl)
set_option maxHeartbeats 1000000 in
set_option maxRecDepth 10000 in
theorem mX9_greatestDivisor (l : Launch) {G : GG} {B : Nat} {x0 : Int32} {x1 : Int32}  {M : Mem} {q : Int32 × Mem} (hf : fX9_greatestDivisor x0 x1 M = some q) : Met l yX9_greatestDivisor (wsG yX9_greatestDivisor cX9_greatestDivisor 6 (some .int)) (rmN (2)) (PcW Ph G B 205 M [.int x0, .int x1]) (QcI Ph G B 205 q.1 q.2) 0 0 (fr B) := by
  refine mk_Met (own := RX9) rfl rfl (Nat.le_of_ble_eq_true rfl) ?_
  intro p e s m below meth c ls cx hr hlk wo hl
  have hl : lv_has ls 6 [(0, .int x0), (1, .int x1)] := hl
  unfold fX9_greatestDivisor at hf
  refine lv_iload_n cx.1 cx.2.1 dX9_greatestDivisor_0 rfl (lv_at hl 0 rfl) ?_
  refine lv_istore_n (lv' := [(2, .int x0), (0, .int x0), (1, .int x1)]) cx.1 cx.2.1 dX9_greatestDivisor_1 rfl hl (by decide) rfl (fun ls hl => ?_)
  refine lv_iload_n cx.1 cx.2.1 dX9_greatestDivisor_2 rfl (lv_at hl 2 rfl) ?_
  refine lv_istore_n (lv' := [(3, .int x1), (2, .int x0), (0, .int x0), (1, .int x1)]) cx.1 cx.2.1 dX9_greatestDivisor_3 rfl hl (by decide) rfl (fun ls hl => ?_)
  refine lv_iconst (v := 0) cx.1 cx.2.1 dX9_greatestDivisor_4 (by decide) ?_
  refine lv_istore (lv' := [(4, .int 0), (3, .int x1), (2, .int x0), (0, .int x0), (1, .int x1)]) cx.1 cx.2.1 dX9_greatestDivisor_5 hl (by decide) rfl (fun ls hl => ?_)
  exact wX9_greatestDivisor_7 cx hr hlk _ _ _ _ _ _ hf _ _ _ wo (lv_sub hl [2, 1, 0] rfl)
set_option maxHeartbeats 1000000 in
set_option maxRecDepth 10000 in
theorem wX9_likely_70 (cx : Cx p s m args c cX9_likely 7 RX9 G) (hr : meth.sig.returnType = (some .int)) (hlk : meth.locks = false) : ∀ (n : Nat) (x1 : Int32) (x2 : Int32) (x3 : Int32) (x4 : Int32) (x5 : Int32)  (M : Mem) (q : Int32 × Mem), fX9_likely_70 n x1 x2 x3 x4 x5 M = some q → ∀ (H : Heap) (locs : List Loc) (ls : Array Slot), Wo Ph G B 205 s M H locs → lv_has ls 7 [(0, .ref (B + 1)), (1, .int x1), (2, .int x2), (3, .int x3), (4, .int x4), (5, .int x5)] → W p l e (rmN (7)) s m args below meth c H locs 0 0 (MQ below (QcI Ph G B 205 q.1 q.2) args s 0 0 (fr B)) (F0 m 70 ls []) := by
  intro n
  induction n with
  | zero =>
    intro x1 x2 x3 x4 x5 M q hf H locs ls wo hl
    have hf : none = some q := hf
    cases hf
  | succ n ih =>
    intro x1 x2 x3 x4 x5 M q hf H locs ls wo hl
    rw [fX9_likely_70] at hf
    refine lv_iload cx.1 cx.2.1 dX9_likely_70 (lv_at hl 5 rfl) ?_
    refine lv_iconst (v := 1) cx.1 cx.2.1 dX9_likely_72 (by decide) ?_
    refine lv_aload_n cx.1 cx.2.1 dX9_likely_73 rfl (lv_at hl 0 rfl) ?_
    refine r_getR cx wo ad_1.1 ad_1.2.1 ad_1.2.2 fiX9_26 (fn_1_2 wo.2.2.2.1) (by decide) dX9_likely_74 ?_
    refine r_getI cx wo ad_6.1 ad_6.2.1 ad_6.2.2 fiX9_282 dX9_likely_77 ?_
    refine lv_ishl cx.1 cx.2.1 dX9_likely_80 ?_
    refine lv_icmp_ge (tgt := 145) cx.1 cx.2.1 dX9_likely_81 (by decide) (fun c13 => ?_) (fun c13 => ?_)
    · rw [if_pos c13] at hf
      refine lv_iload_n cx.1 cx.2.1 dX9_likely_145 rfl (lv_at hl 3 rfl) ?_
      refine lv_iload cx.1 cx.2.1 dX9_likely_146 (lv_at hl 4 rfl) ?_
      obtain ⟨q14, e15, hf⟩ := bd_elim hf
      refine r_Si (rest := []) cx wo (mX9_greatestDivisor l e15) csX9_389 rfl hl.1 rfl (Nat.le_of_ble_eq_true rfl) (hR_ok (by decide)) dX9_likely_148 (fun H locs wo => ?_)
      refine lv_istore (lv' := [(5, .int q14.1), (0, .ref (B + 1)), (1, .int x1), (2, .int x2), (3, .int x3), (4, .int x4)]) cx.1 cx.2.1 dX9_likely_151 hl (by decide) rfl (fun ls hl => ?_)
      refine lv_iload cx.1 cx.2.1 dX9_likely_153 (lv_at hl 0 rfl) ?_
      refine lv_if_le (tgt := 176) cx.1 cx.2.1 dX9_likely_155 (by decide) (fun c16 => ?_) (fun c16 => ?_)
      · rw [if_pos c16] at hf
        refine lv_iconst (v := 0) cx.1 cx.2.1 dX9_likely_176 (by decide) ?_
        have hq := Option.some.inj hf
        subst hq
        exact r_iret cx wo hr hlk dX9_likely_177
      · rw [if_neg c16] at hf
        refine lv_aload_n cx.1 cx.2.1 dX9_likely_158 rfl (lv_at hl 1 rfl) ?_
        refine r_getR cx wo ad_1.1 ad_1.2.1 ad_1.2.2 fiX9_19 (fn_1_1 wo.2.2.2.1) (by decide) dX9_likely_159 ?_
        refine lv_iload_n cx.1 cx.2.1 dX9_likely_162 rfl (lv_at hl 4 rfl) ?_
        refine lv_iload cx.1 cx.2.1 dX9_likely_163 (lv_at hl 0 rfl) ?_
        obtain ⟨g17, hf⟩ := gd_elim hf
        refine lv_idiv cx.1 cx.2.1 dX9_likely_165 g17 ?_
        refine lv_i2l (v := (x3 / q14.1).toInt64) cx.1 cx.2.1 dX9_likely_166 rfl ?_
        refine lv_iload cx.1 cx.2.1 dX9_likely_167 (lv_at hl 5 rfl) ?_
        refine lv_iload cx.1 cx.2.1 dX9_likely_169 (lv_at hl 0 rfl) ?_
        obtain ⟨g18, hf⟩ := gd_elim hf
        refine lv_idiv cx.1 cx.2.1 dX9_likely_171 g18 ?_
        refine lv_i2l (v := (x4 / q14.1).toInt64) cx.1 cx.2.1 dX9_likely_172 rfl ?_
        obtain ⟨q19, e20, hf⟩ := bd_elim hf
        refine r_Vv (rest := []) cx wo (mX5_tellBoth l e20) cvX9_227 rfl ad_4.1 ad_4.2.1 ad_4.2.2 rfl rfl hl.1 rfl (Nat.le_of_ble_eq_true rfl) (hR_ok (by decide)) dX9_likely_173 (fun H locs wo => ?_)
        refine lv_iconst (v := 0) cx.1 cx.2.1 dX9_likely_176 (by decide) ?_
        have hq := Option.some.inj hf
        subst hq
        exact r_iret cx wo hr hlk dX9_likely_177
    · rw [if_neg c13] at hf
      refine lv_aload_n cx.1 cx.2.1 dX9_likely_84 rfl (lv_at hl 0 rfl) ?_
      refine lv_iload cx.1 cx.2.1 dX9_likely_85 (lv_at hl 5 rfl) ?_
      refine lv_iload_n cx.1 cx.2.1 dX9_likely_87 rfl (lv_at hl 2 rfl) ?_
      obtain ⟨q21, e22, hf⟩ := bd_elim hf
      refine r_Vi (rest := []) cx wo (mX9_weightOf l e22) cvX9_383 rfl ad_1.1 ad_1.2.1 ad_1.2.2 rfl rfl hl.1 rfl (Nat.le_of_ble_eq_true rfl) (hR_ok (by decide)) dX9_likely_88 (fun H locs wo => ?_)
      refine lv_istore (lv' := [(6, .int q21.1), (0, .ref (B + 1)), (1, .int x1), (2, .int x2), (3, .int x3), (4, .int x4), (5, .int x5)]) cx.1 cx.2.1 dX9_likely_91 hl (by decide) rfl (fun ls hl => ?_)
      refine lv_iload cx.1 cx.2.1 dX9_likely_93 (lv_at hl 0 rfl) ?_
      refine lv_if_le (tgt := 139) cx.1 cx.2.1 dX9_likely_95 (by decide) (fun c23 => ?_) (fun c23 => ?_)
      · rw [if_pos c23] at hf
        obtain ⟨y24, e25, hf⟩ := lt_elim hf
        refine lv_iinc (v := y24) (lv' := [(5, .int y24), (6, .int q21.1), (0, .ref (B + 1)), (1, .int x1), (2, .int x2), (3, .int x3), (4, .int x4)]) cx.1 cx.2.1 dX9_likely_139 hl (k := 6) rfl (by rw [e25]; rfl) (by decide) rfl (fun ls hl => ?_)
        refine lv_goto (tgt := 70) cx.1 cx.2.1 dX9_likely_142 (by decide) ?_
        exact ih _ _ _ _ _ _ _ hf _ _ _ wo (lv_sub hl [2, 3, 4, 5, 6, 0] rfl)
      · rw [if_neg c23] at hf
        refine lv_aload_n cx.1 cx.2.1 dX9_likely_98 rfl (lv_at hl 1 rfl) ?_
        refine lv_iload cx.1 cx.2.1 dX9_likely_99 (lv_at hl 6 rfl) ?_
        obtain ⟨q26, e27, hf⟩ := bd_elim hf
        refine r_Vv (rest := []) cx wo (mX9_rowBetter l e27) cvX9_386 rfl ad_1.1 ad_1.2.1 ad_1.2.2 rfl rfl hl.1 rfl (Nat.le_of_ble_eq_true rfl) (hR_ok (by decide)) dX9_likely_101 (fun H locs wo => ?_)
        refine lv_aload_n cx.1 cx.2.1 dX9_likely_104 rfl (lv_at hl 1 rfl) ?_
        refine r_getR cx wo ad_1.1 ad_1.2.1 ad_1.2.2 fiX9_64 (fn_1_10 wo.2.2.2.1) (by decide) dX9_likely_105 ?_
        refine lv_aload_n cx.1 cx.2.1 dX9_likely_108 rfl (lv_at hl 1 rfl) ?_
        refine r_getR cx wo ad_1.1 ad_1.2.1 ad_1.2.2 fiX9_33 (fn_1_4 wo.2.2.2.1) (by decide) dX9_likely_109 ?_
        refine lv_aload_n cx.1 cx.2.1 dX9_likely_112 rfl (lv_at hl 1 rfl) ?_
        have hm28 : q26.2.2 1 17 ∈ rules := wo.2.2.2.1.2.2.1
        refine r_getR cx wo ad_1.1 ad_1.2.1 ad_1.2.2 fiX9_100 rfl (rul_ok _ hm28).1.1 dX9_likely_113 ?_
        obtain ⟨q29, e30, hf⟩ := bd_elim hf
        refine r_Vv (rest := []) cx wo (mX3_run l (by decide) hm28 e30) cvX9_157 rfl ad_108.1 ad_108.2.1 ad_108.2.2 rfl rfl hl.1 rfl (Nat.le_of_ble_eq_true rfl) (hR_ok (by decide)) dX9_likely_116 (fun H locs wo => ?_)
        refine lv_iload_n cx.1 cx.2.1 dX9_likely_119 rfl (lv_at hl 4 rfl) ?_
        refine lv_aload_n cx.1 cx.2.1 dX9_likely_120 rfl (lv_at hl 1 rfl) ?_
        refine r_getR cx wo ad_1.1 ad_1.2.1 ad_1.2.2 fiX9_64 (fn_1_10 wo.2.2.2.1) (by decide) dX9_likely_121 ?_
        refine lv_iload_n cx.1 cx.2.1 dX9_likely_124 rfl (lv_at hl 2 rfl) ?_
        obtain ⟨q31, e32, hf⟩ := bd_elim hf
        refine r_Vi (rest := [.int x3]) cx wo (mX3_touchedBy l e32) cvX9_161 rfl ad_108.1 ad_108.2.1 ad_108.2.2 rfl rfl hl.1 rfl (Nat.le_of_ble_eq_true rfl) (hR_ok (by decide)) dX9_likely_125 (fun H locs wo => ?_)
        refine lv_if_lt (tgt := 136) cx.1 cx.2.1 dX9_likely_128 (by decide) (fun c33 => ?_) (fun c33 => ?_)
        · rw [if_pos c33] at hf
          refine lv_iconst (v := 0) cx.1 cx.2.1 dX9_likely_136 (by decide) ?_
          refine lv_iadd cx.1 cx.2.1 dX9_likely_137 ?_
          obtain ⟨y34, e35, hf⟩ := lt_elim hf
          refine r_topi e35 ?_
          refine lv_istore_n (lv' := [(3, .int y34), (6, .int q21.1), (0, .ref (B + 1)), (1, .int x1), (2, .int x2), (4, .int x4), (5, .int x5)]) cx.1 cx.2.1 dX9_likely_138 rfl hl (by decide) rfl (fun ls hl => ?_)
          obtain ⟨y36, e37, hf⟩ := lt_elim hf
          refine lv_iinc (v := y36) (lv' := [(5, .int y36), (3, .int y34), (6, .int q21.1), (0, .ref (B + 1)), (1, .int x1), (2, .int x2), (4, .int x4)]) cx.1 cx.2.1 dX9_likely_139 hl (k := 6) rfl (by rw [e37]; rfl) (by decide) rfl (fun ls hl => ?_)
          refine lv_goto (tgt := 70) cx.1 cx.2.1 dX9_likely_142 (by decide) ?_
          exact ih _ _ _ _ _ _ _ hf _ _ _ wo (lv_sub hl [3, 4, 5, 1, 6, 0] rfl)
        · rw [if_neg c33] at hf
          refine lv_iload cx.1 cx.2.1 dX9_likely_131 (lv_at hl 0 rfl) ?_
          refine lv_goto (tgt := 137) cx.1 cx.2.1 dX9_likely_133 (by decide) ?_
          refine lv_iadd cx.1 cx.2.1 dX9_likely_137 ?_
          obtain ⟨y38, e39, hf⟩ := lt_elim hf
          refine r_topi e39 ?_
          refine lv_istore_n (lv' := [(3, .int y38), (6, .int q21.1), (0, .ref (B + 1)), (1, .int x1), (2, .int x2), (4, .int x4), (5, .int x5)]) cx.1 cx.2.1 dX9_likely_138 rfl hl (by decide) rfl (fun ls hl => ?_)
          obtain ⟨y40, e41, hf⟩ := lt_elim hf
          refine lv_iinc (v := y40) (lv' := [(5, .int y40), (3, .int y38), (6, .int q21.1), (0, .ref (B + 1)), (1, .int x1), (2, .int x2), (4, .int x4)]) cx.1 cx.2.1 dX9_likely_139 hl (k := 6) rfl (by rw [e41]; rfl) (by decide) rfl (fun ls hl => ?_)
          refine lv_goto (tgt := 70) cx.1 cx.2.1 dX9_likely_142 (by decide) ?_
          exact ih _ _ _ _ _ _ _ hf _ _ _ wo (lv_sub hl [3, 4, 5, 1, 6, 0] rfl)
set_option maxHeartbeats 1000000 in
set_option maxRecDepth 10000 in
theorem wX9_likely_42 (cx : Cx p s m args c cX9_likely 7 RX9 G) (hr : meth.sig.returnType = (some .int)) (hlk : meth.locks = false) : ∀ (n : Nat) (x1 : Int32) (x2 : Int32) (x3 : Int32) (x4 : Int32) (x5 : Int32)  (M : Mem) (q : Int32 × Mem), fX9_likely_42 n x1 x2 x3 x4 x5 M = some q → ∀ (H : Heap) (locs : List Loc) (ls : Array Slot), Wo Ph G B 205 s M H locs → lv_has ls 7 [(0, .ref (B + 1)), (1, .int x1), (2, .int x2), (3, .int x3), (4, .int x4), (5, .int x5)] → W p l e (rmN (7)) s m args below meth c H locs 0 0 (MQ below (QcI Ph G B 205 q.1 q.2) args s 0 0 (fr B)) (F0 m 42 ls []) := by
  intro n
  induction n with
  | zero =>
    intro x1 x2 x3 x4 x5 M q hf H locs ls wo hl
    have hf : none = some q := hf
    cases hf
  | succ n ih =>
    intro x1 x2 x3 x4 x5 M q hf H locs ls wo hl
    rw [fX9_likely_42] at hf
    refine lv_iload cx.1 cx.2.1 dX9_likely_42 (lv_at hl 5 rfl) ?_
    refine lv_aload_n cx.1 cx.2.1 dX9_likely_44 rfl (lv_at hl 0 rfl) ?_
    refine r_getR cx wo ad_1.1 ad_1.2.1 ad_1.2.2 fiX9_26 (fn_1_2 wo.2.2.2.1) (by decide) dX9_likely_45 ?_
    refine r_getI cx wo ad_6.1 ad_6.2.1 ad_6.2.2 fiX9_282 dX9_likely_48 ?_
    refine lv_icmp_ge (tgt := 67) cx.1 cx.2.1 dX9_likely_51 (by decide) (fun c8 => ?_) (fun c8 => ?_)
    · rw [if_pos c8] at hf
      refine lv_iconst (v := 0) cx.1 cx.2.1 dX9_likely_67 (by decide) ?_
      refine lv_istore (lv' := [(5, .int 0), (0, .ref (B + 1)), (1, .int x1), (2, .int x2), (3, .int x3), (4, .int x4)]) cx.1 cx.2.1 dX9_likely_68 hl (by decide) rfl (fun ls hl => ?_)
      exact wX9_likely_70 cx hr hlk _ _ _ _ _ _ _ _ hf _ _ _ wo (lv_sub hl [1, 2, 3, 4, 5, 0] rfl)
    · rw [if_neg c8] at hf
      refine lv_iload cx.1 cx.2.1 dX9_likely_54 (lv_at hl 4 rfl) ?_
      refine lv_bipush (v := 10) cx.1 cx.2.1 dX9_likely_56 (by decide) ?_
      refine lv_imul cx.1 cx.2.1 dX9_likely_58 ?_
      obtain ⟨y9, e10, hf⟩ := lt_elim hf
      refine r_topi e10 ?_
      refine lv_istore (lv' := [(4, .int y9), (0, .ref (B + 1)), (1, .int x1), (2, .int x2), (3, .int x3), (5, .int x5)]) cx.1 cx.2.1 dX9_likely_59 hl (by decide) rfl (fun ls hl => ?_)
      obtain ⟨y11, e12, hf⟩ := lt_elim hf
      refine lv_iinc (v := y11) (lv' := [(5, .int y11), (4, .int y9), (0, .ref (B + 1)), (1, .int x1), (2, .int x2), (3, .int x3)]) cx.1 cx.2.1 dX9_likely_61 hl (k := 5) rfl (by rw [e12]; rfl) (by decide) rfl (fun ls hl => ?_)
      refine lv_goto (tgt := 42) cx.1 cx.2.1 dX9_likely_64 (by decide) ?_
      exact ih _ _ _ _ _ _ _ hf _ _ _ wo (lv_sub hl [2, 3, 4, 5, 1, 0] rfl)
set_option maxHeartbeats 1000000 in
set_option maxRecDepth 10000 in
theorem mX9_likely (l : Launch) {G : GG} {B : Nat} {x1 : Int32} {x2 : Int32}  {M : Mem} {q : Int32 × Mem} (hf : fX9_likely x1 x2 M = some q) : Met l yX9_likely (wsG yX9_likely cX9_likely 7 (some .int)) (rmN (7)) (PcW Ph G B 205 M [.ref (B + 1), .int x1, .int x2]) (QcI Ph G B 205 q.1 q.2) 0 0 (fr B) := by
  refine mk_Met (own := RX9) rfl rfl (Nat.le_of_ble_eq_true rfl) ?_
  intro p e s m below meth c ls cx hr hlk wo hl
  have hl : lv_has ls 7 [(0, .ref (B + 1)), (1, .int x1), (2, .int x2)] := hl
  unfold fX9_likely at hf
  refine lv_aload_n cx.1 cx.2.1 dX9_likely_0 rfl (lv_at hl 0 rfl) ?_
  refine r_getR cx wo ad_1.1 ad_1.2.1 ad_1.2.2 fiX9_26 (fn_1_2 wo.2.2.2.1) (by decide) dX9_likely_1 ?_
  refine lv_iload_n cx.1 cx.2.1 dX9_likely_4 rfl (lv_at hl 1 rfl) ?_
  obtain ⟨q1, e2, hf⟩ := bd_elim hf
  refine r_Vi (rest := []) cx wo (mX4_has l (by decide) e2) cvX9_134 rfl ad_6.1 ad_6.2.1 ad_6.2.2 rfl rfl hl.1 rfl (Nat.le_of_ble_eq_true rfl) (hR_ok (by decide)) dX9_likely_5 (fun H locs wo => ?_)
  refine lv_if_eq (tgt := 21) cx.1 cx.2.1 dX9_likely_8 (by decide) (fun c3 => ?_) (fun c3 => ?_)
  · rw [if_pos c3] at hf
    refine lv_iconst (v := (-1)) cx.1 cx.2.1 dX9_likely_21 (by decide) ?_
    have hq := Option.some.inj hf
    subst hq
    exact r_iret cx wo hr hlk dX9_likely_22
  · rw [if_neg c3] at hf
    refine lv_iload_n cx.1 cx.2.1 dX9_likely_11 rfl (lv_at hl 2 rfl) ?_
    refine lv_if_lt (tgt := 21) cx.1 cx.2.1 dX9_likely_12 (by decide) (fun c4 => ?_) (fun c4 => ?_)
    · rw [if_pos c4] at hf
      refine lv_iconst (v := (-1)) cx.1 cx.2.1 dX9_likely_21 (by decide) ?_
      have hq := Option.some.inj hf
      subst hq
      exact r_iret cx wo hr hlk dX9_likely_22
    · rw [if_neg c4] at hf
      refine lv_iload_n cx.1 cx.2.1 dX9_likely_15 rfl (lv_at hl 2 rfl) ?_
      refine lv_bipush (v := 10) cx.1 cx.2.1 dX9_likely_16 (by decide) ?_
      refine lv_icmp_le (tgt := 23) cx.1 cx.2.1 dX9_likely_18 (by decide) (fun c5 => ?_) (fun c5 => ?_)
      · rw [if_pos c5] at hf
        refine lv_aload_n cx.1 cx.2.1 dX9_likely_23 rfl (lv_at hl 0 rfl) ?_
        refine r_getR cx wo ad_1.1 ad_1.2.1 ad_1.2.2 fiX9_33 (fn_1_4 wo.2.2.2.1) (by decide) dX9_likely_24 ?_
        refine lv_aload_n cx.1 cx.2.1 dX9_likely_27 rfl (lv_at hl 0 rfl) ?_
        refine r_getR cx wo ad_1.1 ad_1.2.1 ad_1.2.2 fiX9_26 (fn_1_2 wo.2.2.2.1) (by decide) dX9_likely_28 ?_
        obtain ⟨q6, e7, hf⟩ := bd_elim hf
        refine r_Vv (rest := []) cx wo (mX4_copyFrom l (by decide) (by decide) e7) cvX9_190 rfl ad_16.1 ad_16.2.1 ad_16.2.2 rfl rfl hl.1 rfl (Nat.le_of_ble_eq_true rfl) (hR_ok (by decide)) dX9_likely_31 (fun H locs wo => ?_)
        refine lv_iconst (v := 0) cx.1 cx.2.1 dX9_likely_34 (by decide) ?_
        refine lv_istore_n (lv' := [(3, .int 0), (0, .ref (B + 1)), (1, .int x1), (2, .int x2)]) cx.1 cx.2.1 dX9_likely_35 rfl hl (by decide) rfl (fun ls hl => ?_)
        refine lv_iconst (v := 1) cx.1 cx.2.1 dX9_likely_36 (by decide) ?_
        refine lv_istore (lv' := [(4, .int 1), (3, .int 0), (0, .ref (B + 1)), (1, .int x1), (2, .int x2)]) cx.1 cx.2.1 dX9_likely_37 hl (by decide) rfl (fun ls hl => ?_)
        refine lv_iconst (v := 0) cx.1 cx.2.1 dX9_likely_39 (by decide) ?_
        refine lv_istore (lv' := [(5, .int 0), (4, .int 1), (3, .int 0), (0, .ref (B + 1)), (1, .int x1), (2, .int x2)]) cx.1 cx.2.1 dX9_likely_40 hl (by decide) rfl (fun ls hl => ?_)
        exact wX9_likely_42 cx hr hlk _ _ _ _ _ _ _ _ hf _ _ _ wo (lv_sub hl [3, 4, 5, 2, 1, 0] rfl)
      · rw [if_neg c5] at hf
        refine lv_iconst (v := (-1)) cx.1 cx.2.1 dX9_likely_21 (by decide) ?_
        have hq := Option.some.inj hf
        subst hq
        exact r_iret cx wo hr hlk dX9_likely_22
set_option maxHeartbeats 1000000 in
set_option maxRecDepth 10000 in
theorem wX9_winningPull_24 (cx : Cx p s m args c cX9_winningPull 5 RX9 G) (hr : meth.sig.returnType = (some .int)) (hlk : meth.locks = false) {k2 : Int32 → Int32 → Int32 → Mem → Option (Int32 × Mem)} (hk2 : ∀ (x1 : Int32) (x2 : Int32) (x3 : Int32)  (M : Mem) (q : Int32 × Mem), k2 x1 x2 x3 M = some q → ∀ (H : Heap) (locs : List Loc) (ls : Array Slot), Wo Ph G B 205 s M H locs → lv_has ls 5 [(0, .ref (B + 1)), (1, .int x1), (2, .int x2), (3, .int x3)] → W p l e (rmN (2)) s m args below meth c H locs 0 0 (MQ below (QcI Ph G B 205 q.1 q.2) args s 0 0 (fr B)) (F0 m 2 ls [])) : ∀ (x1 : Int32) (x2 : Int32) (x3 : Int32) (s0 : Int32)  (M : Mem) (q : Int32 × Mem), fX9_winningPull_24 k2 x1 x2 x3 s0 M = some q → ∀ (H : Heap) (locs : List Loc) (ls : Array Slot), Wo Ph G B 205 s M H locs → lv_has ls 5 [(0, .ref (B + 1)), (1, .int x1), (2, .int x2), (3, .int x3)] → W p l e (rmN (2)) s m args below meth c H locs 0 0 (MQ below (QcI Ph G B 205 q.1 q.2) args s 0 0 (fr B)) (F0 m 24 ls [.int s0]) := by
  intro x1 x2 x3 s0 M q hf H locs ls wo hl
  unfold fX9_winningPull_24 at hf
  refine lv_istore (lv' := [(4, .int s0), (0, .ref (B + 1)), (1, .int x1), (2, .int x2), (3, .int x3)]) cx.1 cx.2.1 dX9_winningPull_24 hl (by decide) rfl (fun ls hl => ?_)
  refine lv_iload cx.1 cx.2.1 dX9_winningPull_26 (lv_at hl 0 rfl) ?_
  refine lv_if_eq (tgt := 44) cx.1 cx.2.1 dX9_winningPull_28 (by decide) (fun c4 => ?_) (fun c4 => ?_)
  · rw [if_pos c4] at hf
    obtain ⟨y5, e6, hf⟩ := lt_elim hf
    refine lv_iinc (v := y5) (lv' := [(3, .int y5), (4, .int s0), (0, .ref (B + 1)), (1, .int x1), (2, .int x2)]) cx.1 cx.2.1 dX9_winningPull_44 hl (k := 4) rfl (by rw [e6]; rfl) (by decide) rfl (fun ls hl => ?_)
    refine lv_goto (tgt := 2) cx.1 cx.2.1 dX9_winningPull_47 (by decide) ?_
    exact hk2 _ _ _ _ _ hf _ _ _ wo (lv_sub hl [2, 3, 4, 0] rfl)
  · rw [if_neg c4] at hf
    refine lv_aload_n cx.1 cx.2.1 dX9_winningPull_31 rfl (lv_at hl 1 rfl) ?_
    refine r_getR cx wo ad_1.1 ad_1.2.1 ad_1.2.2 fiX9_92 (fn_1_16 wo.2.2.2.1) (by decide) dX9_winningPull_32 ?_
    refine lv_iload_n cx.1 cx.2.1 dX9_winningPull_35 rfl (lv_at hl 2 rfl) ?_
    refine lv_iload_n cx.1 cx.2.1 dX9_winningPull_36 rfl (lv_at hl 4 rfl) ?_
    refine lv_isub cx.1 cx.2.1 dX9_winningPull_37 ?_
    obtain ⟨g7, hf⟩ := gd_elim hf
    refine r_zald cx wo ad_145.1 ad_145.2.1 ad_145.2.2 (by rw [ln_145]; exact g7) dX9_winningPull_38 ?_
    refine lv_if_ne (tgt := 44) cx.1 cx.2.1 dX9_winningPull_39 (by decide) (fun c8 => ?_) (fun c8 => ?_)
    · rw [if_neg c8] at hf
      obtain ⟨y9, e10, hf⟩ := lt_elim hf
      refine lv_iinc (v := y9) (lv' := [(3, .int y9), (4, .int s0), (0, .ref (B + 1)), (1, .int x1), (2, .int x2)]) cx.1 cx.2.1 dX9_winningPull_44 hl (k := 4) rfl (by rw [e10]; rfl) (by decide) rfl (fun ls hl => ?_)
      refine lv_goto (tgt := 2) cx.1 cx.2.1 dX9_winningPull_47 (by decide) ?_
      exact hk2 _ _ _ _ _ hf _ _ _ wo (lv_sub hl [2, 3, 4, 0] rfl)
    · rw [if_pos c8] at hf
      refine lv_iload_n cx.1 cx.2.1 dX9_winningPull_42 rfl (lv_at hl 4 rfl) ?_
      have hq := Option.some.inj hf
      subst hq
      exact r_iret cx wo hr hlk dX9_winningPull_43
set_option maxHeartbeats 1000000 in
set_option maxRecDepth 10000 in
theorem wX9_winningPull_19 (cx : Cx p s m args c cX9_winningPull 5 RX9 G) (hr : meth.sig.returnType = (some .int)) (hlk : meth.locks = false) {k2 : Int32 → Int32 → Int32 → Mem → Option (Int32 × Mem)} (hk2 : ∀ (x1 : Int32) (x2 : Int32) (x3 : Int32)  (M : Mem) (q : Int32 × Mem), k2 x1 x2 x3 M = some q → ∀ (H : Heap) (locs : List Loc) (ls : Array Slot), Wo Ph G B 205 s M H locs → lv_has ls 5 [(0, .ref (B + 1)), (1, .int x1), (2, .int x2), (3, .int x3)] → W p l e (rmN (2)) s m args below meth c H locs 0 0 (MQ below (QcI Ph G B 205 q.1 q.2) args s 0 0 (fr B)) (F0 m 2 ls [])) : ∀ (x1 : Int32) (x2 : Int32) (x3 : Int32)  (M : Mem) (q : Int32 × Mem), fX9_winningPull_19 k2 x1 x2 x3 M = some q → ∀ (H : Heap) (locs : List Loc) (ls : Array Slot), Wo Ph G B 205 s M H locs → lv_has ls 5 [(0, .ref (B + 1)), (1, .int x1), (2, .int x2), (3, .int x3)] → W p l e (rmN (2)) s m args below meth c H locs 0 0 (MQ below (QcI Ph G B 205 q.1 q.2) args s 0 0 (fr B)) (F0 m 19 ls []) := by
  intro x1 x2 x3 M q hf H locs ls wo hl
  unfold fX9_winningPull_19 at hf
  refine lv_iconst (v := 1) cx.1 cx.2.1 dX9_winningPull_19 (by decide) ?_
  refine lv_goto (tgt := 24) cx.1 cx.2.1 dX9_winningPull_20 (by decide) ?_
  exact wX9_winningPull_24 cx hr hlk hk2 _ _ _ _ _ _ hf _ _ _ wo (lv_sub hl [0, 1, 2, 3] rfl)
set_option maxHeartbeats 1000000 in
set_option maxRecDepth 10000 in
theorem wX9_winningPull_2 (cx : Cx p s m args c cX9_winningPull 5 RX9 G) (hr : meth.sig.returnType = (some .int)) (hlk : meth.locks = false) : ∀ (n : Nat) (x1 : Int32) (x2 : Int32) (x3 : Int32)  (M : Mem) (q : Int32 × Mem), fX9_winningPull_2 n x1 x2 x3 M = some q → ∀ (H : Heap) (locs : List Loc) (ls : Array Slot), Wo Ph G B 205 s M H locs → lv_has ls 5 [(0, .ref (B + 1)), (1, .int x1), (2, .int x2), (3, .int x3)] → W p l e (rmN (2)) s m args below meth c H locs 0 0 (MQ below (QcI Ph G B 205 q.1 q.2) args s 0 0 (fr B)) (F0 m 2 ls []) := by
  intro n
  induction n with
  | zero =>
    intro x1 x2 x3 M q hf H locs ls wo hl
    have hf : none = some q := hf
    cases hf
  | succ n ih =>
    intro x1 x2 x3 M q hf H locs ls wo hl
    rw [fX9_winningPull_2] at hf
    refine lv_iload_n cx.1 cx.2.1 dX9_winningPull_2 rfl (lv_at hl 3 rfl) ?_
    refine lv_iload_n cx.1 cx.2.1 dX9_winningPull_3 rfl (lv_at hl 1 rfl) ?_
    refine lv_icmp_gt (tgt := 50) cx.1 cx.2.1 dX9_winningPull_4 (by decide) (fun c1 => ?_) (fun c1 => ?_)
    · rw [if_pos c1] at hf
      refine lv_iconst (v := 0) cx.1 cx.2.1 dX9_winningPull_50 (by decide) ?_
      have hq := Option.some.inj hf
      subst hq
      exact r_iret cx wo hr hlk dX9_winningPull_51
    · rw [if_neg c1] at hf
      refine lv_iload_n cx.1 cx.2.1 dX9_winningPull_7 rfl (lv_at hl 3 rfl) ?_
      refine lv_iload_n cx.1 cx.2.1 dX9_winningPull_8 rfl (lv_at hl 2 rfl) ?_
      refine lv_icmp_le (tgt := 19) cx.1 cx.2.1 dX9_winningPull_9 (by decide) (fun c2 => ?_) (fun c2 => ?_)
      · rw [if_pos c2] at hf
        exact wX9_winningPull_19 cx hr hlk ih _ _ _ _ _ hf _ _ _ wo (lv_sub hl [0, 1, 2, 3] rfl)
      · rw [if_neg c2] at hf
        refine lv_iload_n cx.1 cx.2.1 dX9_winningPull_12 rfl (lv_at hl 3 rfl) ?_
        refine lv_iconst (v := 2) cx.1 cx.2.1 dX9_winningPull_13 (by decide) ?_
        refine lv_imul cx.1 cx.2.1 dX9_winningPull_14 ?_
        refine lv_iload_n cx.1 cx.2.1 dX9_winningPull_15 rfl (lv_at hl 1 rfl) ?_
        refine lv_icmp_ne (tgt := 23) cx.1 cx.2.1 dX9_winningPull_16 (by decide) (fun c3 => ?_) (fun c3 => ?_)
        · rw [if_neg c3] at hf
          refine lv_iconst (v := 0) cx.1 cx.2.1 dX9_winningPull_23 (by decide) ?_
          exact wX9_winningPull_24 cx hr hlk ih _ _ _ _ _ _ hf _ _ _ wo (lv_sub hl [0, 1, 2, 3] rfl)
        · rw [if_pos c3] at hf
          exact wX9_winningPull_19 cx hr hlk ih _ _ _ _ _ hf _ _ _ wo (lv_sub hl [0, 1, 2, 3] rfl)
set_option maxHeartbeats 1000000 in
set_option maxRecDepth 10000 in
theorem mX9_winningPull (l : Launch) {G : GG} {B : Nat} {x1 : Int32} {x2 : Int32}  {M : Mem} {q : Int32 × Mem} (hf : fX9_winningPull x1 x2 M = some q) : Met l yX9_winningPull (wsG yX9_winningPull cX9_winningPull 5 (some .int)) (rmN (2)) (PcW Ph G B 205 M [.ref (B + 1), .int x1, .int x2]) (QcI Ph G B 205 q.1 q.2) 0 0 (fr B) := by
  refine mk_Met (own := RX9) rfl rfl (Nat.le_of_ble_eq_true rfl) ?_
  intro p e s m below meth c ls cx hr hlk wo hl
  have hl : lv_has ls 5 [(0, .ref (B + 1)), (1, .int x1), (2, .int x2)] := hl
  unfold fX9_winningPull at hf
  refine lv_iconst (v := 1) cx.1 cx.2.1 dX9_winningPull_0 (by decide) ?_
  refine lv_istore_n (lv' := [(3, .int 1), (0, .ref (B + 1)), (1, .int x1), (2, .int x2)]) cx.1 cx.2.1 dX9_winningPull_1 rfl hl (by decide) rfl (fun ls hl => ?_)
  exact wX9_winningPull_2 cx hr hlk _ _ _ _ _ _ hf _ _ _ wo (lv_sub hl [1, 2, 3, 0] rfl)
set_option maxHeartbeats 1000000 in
set_option maxRecDepth 10000 in
theorem wX9_pulls_32 (cx : Cx p s m args c cX9_pulls 4 RX9 G) (hr : meth.sig.returnType = (some .int)) (hlk : meth.locks = false) : ∀ (n : Nat) (x1 : Int32) (x2 : Int32) (x3 : Int32)  (M : Mem) (q : Int32 × Mem), fX9_pulls_32 n x1 x2 x3 M = some q → ∀ (H : Heap) (locs : List Loc) (ls : Array Slot), Wo Ph G B 205 s M H locs → lv_has ls 4 [(0, .ref (B + 1)), (1, .int x1), (2, .int x2), (3, .int x3)] → W p l e (rmN (3)) s m args below meth c H locs 0 0 (MQ below (QcI Ph G B 205 q.1 q.2) args s 0 0 (fr B)) (F0 m 32 ls []) := by
  intro n
  induction n with
  | zero =>
    intro x1 x2 x3 M q hf H locs ls wo hl
    have hf : none = some q := hf
    cases hf
  | succ n ih =>
    intro x1 x2 x3 M q hf H locs ls wo hl
    rw [fX9_pulls_32] at hf
    refine lv_iload_n cx.1 cx.2.1 dX9_pulls_32 rfl (lv_at hl 3 rfl) ?_
    refine lv_iload_n cx.1 cx.2.1 dX9_pulls_33 rfl (lv_at hl 1 rfl) ?_
    refine lv_icmp_gt (tgt := 63) cx.1 cx.2.1 dX9_pulls_34 (by decide) (fun c8 => ?_) (fun c8 => ?_)
    · rw [if_pos c8] at hf
      refine lv_aload_n cx.1 cx.2.1 dX9_pulls_63 rfl (lv_at hl 0 rfl) ?_
      refine lv_iload_n cx.1 cx.2.1 dX9_pulls_64 rfl (lv_at hl 1 rfl) ?_
      refine lv_iload_n cx.1 cx.2.1 dX9_pulls_65 rfl (lv_at hl 2 rfl) ?_
      obtain ⟨q9, e10, hf⟩ := bd_elim hf
      refine r_Vi (rest := []) cx wo (mX9_winningPull l e10) cvX9_392 rfl ad_1.1 ad_1.2.1 ad_1.2.2 rfl rfl hl.1 rfl (Nat.le_of_ble_eq_true rfl) (hR_ok (by decide)) dX9_pulls_66 (fun H locs wo => ?_)
      have hq := Option.some.inj hf
      subst hq
      exact r_iret cx wo hr hlk dX9_pulls_69
    · rw [if_neg c8] at hf
      refine lv_aload_n cx.1 cx.2.1 dX9_pulls_37 rfl (lv_at hl 0 rfl) ?_
      refine r_getR cx wo ad_1.1 ad_1.2.1 ad_1.2.2 fiX9_92 (fn_1_16 wo.2.2.2.1) (by decide) dX9_pulls_38 ?_
      refine lv_iload_n cx.1 cx.2.1 dX9_pulls_41 rfl (lv_at hl 3 rfl) ?_
      refine lv_aload_n cx.1 cx.2.1 dX9_pulls_42 rfl (lv_at hl 0 rfl) ?_
      refine lv_iload_n cx.1 cx.2.1 dX9_pulls_43 rfl (lv_at hl 3 rfl) ?_
      refine lv_iload_n cx.1 cx.2.1 dX9_pulls_44 rfl (lv_at hl 2 rfl) ?_
      obtain ⟨q11, e12, hf⟩ := bd_elim hf
      refine r_Vi (rest := [.int x3, .ref (B + 145)]) cx wo (mX9_winningPull l e12) cvX9_392 rfl ad_1.1 ad_1.2.1 ad_1.2.2 rfl rfl hl.1 rfl (Nat.le_of_ble_eq_true rfl) (hR_ok (by decide)) dX9_pulls_45 (fun H locs wo => ?_)
      refine lv_if_le (tgt := 55) cx.1 cx.2.1 dX9_pulls_48 (by decide) (fun c13 => ?_) (fun c13 => ?_)
      · rw [if_pos c13] at hf
        refine lv_iconst (v := 0) cx.1 cx.2.1 dX9_pulls_55 (by decide) ?_
        obtain ⟨g14, hf⟩ := gd_elim hf
        obtain ⟨M15, e16, hf⟩ := lt_elim hf
        refine r_zast cx wo ad_145.1 ad_145.2.1 ad_145.2.2 (by rw [ln_145]; exact g14) dX9_pulls_56 (fun H locs wo => ?_)
        rw [← e16] at wo
        obtain ⟨y17, e18, hf⟩ := lt_elim hf
        refine lv_iinc (v := y17) (lv' := [(3, .int y17), (0, .ref (B + 1)), (1, .int x1), (2, .int x2)]) cx.1 cx.2.1 dX9_pulls_57 hl (k := 3) rfl (by rw [e18]; rfl) (by decide) rfl (fun ls hl => ?_)
        refine lv_goto (tgt := 32) cx.1 cx.2.1 dX9_pulls_60 (by decide) ?_
        exact ih _ _ _ _ _ hf _ _ _ wo (lv_sub hl [1, 2, 3, 0] rfl)
      · rw [if_neg c13] at hf
        refine lv_iconst (v := 1) cx.1 cx.2.1 dX9_pulls_51 (by decide) ?_
        refine lv_goto (tgt := 56) cx.1 cx.2.1 dX9_pulls_52 (by decide) ?_
        obtain ⟨g19, hf⟩ := gd_elim hf
        obtain ⟨M20, e21, hf⟩ := lt_elim hf
        refine r_zast cx wo ad_145.1 ad_145.2.1 ad_145.2.2 (by rw [ln_145]; exact g19) dX9_pulls_56 (fun H locs wo => ?_)
        rw [← e21] at wo
        obtain ⟨y22, e23, hf⟩ := lt_elim hf
        refine lv_iinc (v := y22) (lv' := [(3, .int y22), (0, .ref (B + 1)), (1, .int x1), (2, .int x2)]) cx.1 cx.2.1 dX9_pulls_57 hl (k := 3) rfl (by rw [e23]; rfl) (by decide) rfl (fun ls hl => ?_)
        refine lv_goto (tgt := 32) cx.1 cx.2.1 dX9_pulls_60 (by decide) ?_
        exact ih _ _ _ _ _ hf _ _ _ wo (lv_sub hl [1, 2, 3, 0] rfl)
set_option maxHeartbeats 1000000 in
set_option maxRecDepth 10000 in
theorem mX9_pulls (l : Launch) {G : GG} {B : Nat} {x1 : Int32} {x2 : Int32}  {M : Mem} {q : Int32 × Mem} (hf : fX9_pulls x1 x2 M = some q) : Met l yX9_pulls (wsG yX9_pulls cX9_pulls 4 (some .int)) (rmN (3)) (PcW Ph G B 205 M [.ref (B + 1), .int x1, .int x2]) (QcI Ph G B 205 q.1 q.2) 0 0 (fr B) := by
  refine mk_Met (own := RX9) rfl rfl (Nat.le_of_ble_eq_true rfl) ?_
  intro p e s m below meth c ls cx hr hlk wo hl
  have hl : lv_has ls 4 [(0, .ref (B + 1)), (1, .int x1), (2, .int x2)] := hl
  unfold fX9_pulls at hf
  refine lv_iload_n cx.1 cx.2.1 dX9_pulls_0 rfl (lv_at hl 1 rfl) ?_
  refine lv_if_lt (tgt := 21) cx.1 cx.2.1 dX9_pulls_1 (by decide) (fun c1 => ?_) (fun c1 => ?_)
  · rw [if_pos c1] at hf
    refine lv_iconst (v := (-1)) cx.1 cx.2.1 dX9_pulls_21 (by decide) ?_
    have hq := Option.some.inj hf
    subst hq
    exact r_iret cx wo hr hlk dX9_pulls_22
  · rw [if_neg c1] at hf
    refine lv_iload_n cx.1 cx.2.1 dX9_pulls_4 rfl (lv_at hl 1 rfl) ?_
    refine lv_bipush (v := 60) cx.1 cx.2.1 dX9_pulls_5 (by decide) ?_
    refine lv_icmp_gt (tgt := 21) cx.1 cx.2.1 dX9_pulls_7 (by decide) (fun c2 => ?_) (fun c2 => ?_)
    · rw [if_pos c2] at hf
      refine lv_iconst (v := (-1)) cx.1 cx.2.1 dX9_pulls_21 (by decide) ?_
      have hq := Option.some.inj hf
      subst hq
      exact r_iret cx wo hr hlk dX9_pulls_22
    · rw [if_neg c2] at hf
      refine lv_iload_n cx.1 cx.2.1 dX9_pulls_10 rfl (lv_at hl 2 rfl) ?_
      refine lv_iconst (v := 2) cx.1 cx.2.1 dX9_pulls_11 (by decide) ?_
      refine lv_icmp_lt (tgt := 21) cx.1 cx.2.1 dX9_pulls_12 (by decide) (fun c3 => ?_) (fun c3 => ?_)
      · rw [if_pos c3] at hf
        refine lv_iconst (v := (-1)) cx.1 cx.2.1 dX9_pulls_21 (by decide) ?_
        have hq := Option.some.inj hf
        subst hq
        exact r_iret cx wo hr hlk dX9_pulls_22
      · rw [if_neg c3] at hf
        refine lv_iload_n cx.1 cx.2.1 dX9_pulls_15 rfl (lv_at hl 2 rfl) ?_
        refine lv_bipush (v := 9) cx.1 cx.2.1 dX9_pulls_16 (by decide) ?_
        refine lv_icmp_le (tgt := 23) cx.1 cx.2.1 dX9_pulls_18 (by decide) (fun c4 => ?_) (fun c4 => ?_)
        · rw [if_pos c4] at hf
          refine lv_aload_n cx.1 cx.2.1 dX9_pulls_23 rfl (lv_at hl 0 rfl) ?_
          refine r_getR cx wo ad_1.1 ad_1.2.1 ad_1.2.2 fiX9_92 (fn_1_16 wo.2.2.2.1) (by decide) dX9_pulls_24 ?_
          refine lv_iconst (v := 0) cx.1 cx.2.1 dX9_pulls_27 (by decide) ?_
          refine lv_iconst (v := 1) cx.1 cx.2.1 dX9_pulls_28 (by decide) ?_
          obtain ⟨g5, hf⟩ := gd_elim hf
          obtain ⟨M6, e7, hf⟩ := lt_elim hf
          refine r_zast cx wo ad_145.1 ad_145.2.1 ad_145.2.2 (by rw [ln_145]; exact g5) dX9_pulls_29 (fun H locs wo => ?_)
          rw [← e7] at wo
          refine lv_iconst (v := 1) cx.1 cx.2.1 dX9_pulls_30 (by decide) ?_
          refine lv_istore_n (lv' := [(3, .int 1), (0, .ref (B + 1)), (1, .int x1), (2, .int x2)]) cx.1 cx.2.1 dX9_pulls_31 rfl hl (by decide) rfl (fun ls hl => ?_)
          exact wX9_pulls_32 cx hr hlk _ _ _ _ _ _ hf _ _ _ wo (lv_sub hl [1, 2, 3, 0] rfl)
        · rw [if_neg c4] at hf
          refine lv_iconst (v := (-1)) cx.1 cx.2.1 dX9_pulls_21 (by decide) ?_
          have hq := Option.some.inj hf
          subst hq
          exact r_iret cx wo hr hlk dX9_pulls_22
set_option maxHeartbeats 1000000 in
set_option maxRecDepth 10000 in
theorem wX9_law_88 (cx : Cx p s m args c cX9_law 5 RX9 G) (hr : meth.sig.returnType = (some .int)) (hlk : meth.locks = false) : ∀ (n : Nat) (x2 : Int32) (x3 : Int32) (x4 : Int32)  (M : Mem) (q : Int32 × Mem), fX9_law_88 n x2 x3 x4 M = some q → ∀ (H : Heap) (locs : List Loc) (ls : Array Slot), Wo Ph G B 205 s M H locs → lv_has ls 5 [(0, .ref (B + 1)), (2, .int x2), (3, .int x3), (4, .int x4)] → W p l e (rmN (48)) s m args below meth c H locs 0 0 (MQ below (QcI Ph G B 205 q.1 q.2) args s 0 0 (fr B)) (F0 m 88 ls []) := by
  intro n
  induction n with
  | zero =>
    intro x2 x3 x4 M q hf H locs ls wo hl
    have hf : none = some q := hf
    cases hf
  | succ n ih =>
    intro x2 x3 x4 M q hf H locs ls wo hl
    rw [fX9_law_88] at hf
    refine lv_iload cx.1 cx.2.1 dX9_law_88 (lv_at hl 3 rfl) ?_
    refine lv_aload_n cx.1 cx.2.1 dX9_law_90 rfl (lv_at hl 0 rfl) ?_
    refine r_getR cx wo ad_1.1 ad_1.2.1 ad_1.2.2 fiX9_33 (fn_1_4 wo.2.2.2.1) (by decide) dX9_law_91 ?_
    refine r_getI cx wo ad_16.1 ad_16.2.1 ad_16.2.2 fiX9_282 dX9_law_94 ?_
    refine lv_icmp_ge (tgt := 124) cx.1 cx.2.1 dX9_law_97 (by decide) (fun c19 => ?_) (fun c19 => ?_)
    · rw [if_pos c19] at hf
      refine lv_iload_n cx.1 cx.2.1 dX9_law_124 rfl (lv_at hl 2 rfl) ?_
      refine lv_iload_n cx.1 cx.2.1 dX9_law_125 rfl (lv_at hl 1 rfl) ?_
      refine lv_isub cx.1 cx.2.1 dX9_law_126 ?_
      have hq := Option.some.inj hf
      subst hq
      exact r_iret cx wo hr hlk dX9_law_127
    · rw [if_neg c19] at hf
      refine lv_aload_n cx.1 cx.2.1 dX9_law_100 rfl (lv_at hl 0 rfl) ?_
      refine r_getR cx wo ad_1.1 ad_1.2.1 ad_1.2.2 fiX9_19 (fn_1_1 wo.2.2.2.1) (by decide) dX9_law_101 ?_
      refine lv_aload_n cx.1 cx.2.1 dX9_law_104 rfl (lv_at hl 0 rfl) ?_
      refine r_getR cx wo ad_1.1 ad_1.2.1 ad_1.2.2 fiX9_33 (fn_1_4 wo.2.2.2.1) (by decide) dX9_law_105 ?_
      refine r_getR cx wo ad_16.1 ad_16.2.1 ad_16.2.2 fiX9_350 (fn_16_4 wo.2.2.2.1) (by decide) dX9_law_108 ?_
      refine lv_iload cx.1 cx.2.1 dX9_law_111 (lv_at hl 3 rfl) ?_
      obtain ⟨g20, hf⟩ := gd_elim hf
      refine r_iald cx wo ad_20.1 ad_20.2.1 ad_20.2.2 (by rw [ln_20]; exact g20) dX9_law_113 ?_
      refine lv_i2l (v := (M.1 20 (ix x4)).toInt64) cx.1 cx.2.1 dX9_law_114 rfl ?_
      obtain ⟨q21, e22, hf⟩ := bd_elim hf
      refine r_Vv (rest := []) cx wo (mX5_add l e22) cvX9_242 rfl ad_4.1 ad_4.2.1 ad_4.2.2 rfl rfl hl.1 rfl (Nat.le_of_ble_eq_true rfl) (hR_ok (by decide)) dX9_law_115 (fun H locs wo => ?_)
      obtain ⟨y23, e24, hf⟩ := lt_elim hf
      refine lv_iinc (v := y23) (lv' := [(4, .int y23), (0, .ref (B + 1)), (2, .int x2), (3, .int x3)]) cx.1 cx.2.1 dX9_law_118 hl (k := 3) rfl (by rw [e24]; rfl) (by decide) rfl (fun ls hl => ?_)
      refine lv_goto (tgt := 88) cx.1 cx.2.1 dX9_law_121 (by decide) ?_
      exact ih _ _ _ _ _ hf _ _ _ wo (lv_sub hl [1, 2, 3, 0] rfl)
set_option maxHeartbeats 1000000 in
set_option maxRecDepth 10000 in
theorem mX9_law (l : Launch) {G : GG} {B : Nat}   {M : Mem} {q : Int32 × Mem} (hf : fX9_law  M = some q) : Met l yX9_law (wsG yX9_law cX9_law 5 (some .int)) (rmN (48)) (PcW Ph G B 205 M [.ref (B + 1)]) (QcI Ph G B 205 q.1 q.2) 0 0 (fr B) := by
  refine mk_Met (own := RX9) rfl rfl (Nat.le_of_ble_eq_true rfl) ?_
  intro p e s m below meth c ls cx hr hlk wo hl
  have hl : lv_has ls 5 [(0, .ref (B + 1))] := hl
  unfold fX9_law at hf
  refine lv_aload_n cx.1 cx.2.1 dX9_law_0 rfl (lv_at hl 0 rfl) ?_
  have hm1 : M.2.2 1 18 ∈ rules := wo.2.2.2.1.2.2.2
  refine r_getR cx wo ad_1.1 ad_1.2.1 ad_1.2.2 fiX9_104 rfl (rul_ok _ hm1).1.1 dX9_law_1 ?_
  obtain ⟨q2, e3, hf⟩ := bd_elim hf
  refine r_Vi (rest := []) cx wo (mX6_compile l hm1 e3) cvX9_131 rfl (rul_ok _ hm1).1.1 (rul_ok _ hm1).1.2.1 (rul_ok _ hm1).1.2.2 rfl rfl hl.1 rfl (Nat.le_of_ble_eq_true rfl) (hR_ok (by decide)) dX9_law_4 (fun H locs wo => ?_)
  refine lv_istore_n (lv' := [(1, .int q2.1), (0, .ref (B + 1))]) cx.1 cx.2.1 dX9_law_7 rfl hl (by decide) rfl (fun ls hl => ?_)
  refine lv_aload_n cx.1 cx.2.1 dX9_law_8 rfl (lv_at hl 1 rfl) ?_
  refine r_getR cx wo ad_1.1 ad_1.2.1 ad_1.2.2 fiX9_10 (fn_1_0 wo.2.2.2.1) (by decide) dX9_law_9 ?_
  refine lv_iconst (v := 0) cx.1 cx.2.1 dX9_law_12 (by decide) ?_
  obtain ⟨M4, e5, hf⟩ := lt_elim hf
  refine r_putI cx wo ad_2.1 ad_2.2.1 ad_2.2.2 fpX9_107 dX9_law_13 (fun H locs wo => ?_)
  rw [← e5] at wo
  refine lv_iload_n cx.1 cx.2.1 dX9_law_16 rfl (lv_at hl 0 rfl) ?_
  refine lv_if_lt (tgt := 26) cx.1 cx.2.1 dX9_law_17 (by decide) (fun c6 => ?_) (fun c6 => ?_)
  · rw [if_pos c6] at hf
    refine lv_aload_n cx.1 cx.2.1 dX9_law_26 rfl (lv_at hl 1 rfl) ?_
    refine r_getR cx wo ad_1.1 ad_1.2.1 ad_1.2.2 fiX9_64 (fn_1_10 wo.2.2.2.1) (by decide) dX9_law_27 ?_
    refine lv_aload_n cx.1 cx.2.1 dX9_law_30 rfl (lv_at hl 1 rfl) ?_
    refine r_getR cx wo ad_1.1 ad_1.2.1 ad_1.2.2 fiX9_26 (fn_1_2 wo.2.2.2.1) (by decide) dX9_law_31 ?_
    refine lv_aload_n cx.1 cx.2.1 dX9_law_34 rfl (lv_at hl 1 rfl) ?_
    have hm7 : M4.2.2 1 17 ∈ rules := wo.2.2.2.1.2.2.1
    refine r_getR cx wo ad_1.1 ad_1.2.1 ad_1.2.2 fiX9_100 rfl (rul_ok _ hm7).1.1 dX9_law_35 ?_
    obtain ⟨q8, e9, hf⟩ := bd_elim hf
    refine r_Vv (rest := []) cx wo (mX3_run l (by decide) hm7 e9) cvX9_157 rfl ad_108.1 ad_108.2.1 ad_108.2.2 rfl rfl hl.1 rfl (Nat.le_of_ble_eq_true rfl) (hR_ok (by decide)) dX9_law_38 (fun H locs wo => ?_)
    refine lv_aload_n cx.1 cx.2.1 dX9_law_41 rfl (lv_at hl 1 rfl) ?_
    refine r_getR cx wo ad_1.1 ad_1.2.1 ad_1.2.2 fiX9_64 (fn_1_10 wo.2.2.2.1) (by decide) dX9_law_42 ?_
    refine r_getI cx wo ad_108.1 ad_108.2.1 ad_108.2.2 fiX9_236 dX9_law_45 ?_
    obtain ⟨y10, e11, hf⟩ := lt_elim hf
    refine r_topi e11 ?_
    refine lv_istore_n (lv' := [(2, .int y10), (1, .int q2.1), (0, .ref (B + 1))]) cx.1 cx.2.1 dX9_law_48 rfl hl (by decide) rfl (fun ls hl => ?_)
    refine lv_aload_n cx.1 cx.2.1 dX9_law_49 rfl (lv_at hl 2 rfl) ?_
    refine r_getR cx wo ad_1.1 ad_1.2.1 ad_1.2.2 fiX9_33 (fn_1_4 wo.2.2.2.1) (by decide) dX9_law_50 ?_
    refine lv_aload_n cx.1 cx.2.1 dX9_law_53 rfl (lv_at hl 2 rfl) ?_
    refine r_getR cx wo ad_1.1 ad_1.2.1 ad_1.2.2 fiX9_26 (fn_1_2 wo.2.2.2.1) (by decide) dX9_law_54 ?_
    obtain ⟨q12, e13, hf⟩ := bd_elim hf
    refine r_Vv (rest := []) cx wo (mX4_copyFrom l (by decide) (by decide) e13) cvX9_190 rfl ad_16.1 ad_16.2.1 ad_16.2.2 rfl rfl hl.1 rfl (Nat.le_of_ble_eq_true rfl) (hR_ok (by decide)) dX9_law_57 (fun H locs wo => ?_)
    refine lv_aload_n cx.1 cx.2.1 dX9_law_60 rfl (lv_at hl 2 rfl) ?_
    refine lv_aload_n cx.1 cx.2.1 dX9_law_61 rfl (lv_at hl 2 rfl) ?_
    refine r_getR cx wo ad_1.1 ad_1.2.1 ad_1.2.2 fiX9_33 (fn_1_4 wo.2.2.2.1) (by decide) dX9_law_62 ?_
    refine lv_aload_n cx.1 cx.2.1 dX9_law_65 rfl (lv_at hl 2 rfl) ?_
    have hm14 : q12.2.2 1 18 ∈ rules := wo.2.2.2.1.2.2.2
    refine r_getR cx wo ad_1.1 ad_1.2.1 ad_1.2.2 fiX9_104 rfl (rul_ok _ hm14).1.1 dX9_law_66 ?_
    refine lv_iconst (v := 1) cx.1 cx.2.1 dX9_law_69 (by decide) ?_
    obtain ⟨q15, e16, hf⟩ := bd_elim hf
    refine r_Vi (rest := []) cx wo (mX9_passDays l (by decide) hm14 e16) cvX9_182 rfl ad_1.1 ad_1.2.1 ad_1.2.2 rfl rfl hl.1 rfl (Nat.le_of_ble_eq_true rfl) (hR_ok (by decide)) dX9_law_70 (fun H locs wo => ?_)
    refine lv_istore_n (lv' := [(3, .int q15.1), (2, .int y10), (1, .int q2.1), (0, .ref (B + 1))]) cx.1 cx.2.1 dX9_law_73 rfl hl (by decide) rfl (fun ls hl => ?_)
    refine lv_aload_n cx.1 cx.2.1 dX9_law_74 rfl (lv_at hl 3 rfl) ?_
    refine r_getR cx wo ad_1.1 ad_1.2.1 ad_1.2.2 fiX9_19 (fn_1_1 wo.2.2.2.1) (by decide) dX9_law_75 ?_
    refine lv_iload_n cx.1 cx.2.1 dX9_law_78 rfl (lv_at hl 0 rfl) ?_
    refine lv_i2l (v := q15.1.toInt64) cx.1 cx.2.1 dX9_law_79 rfl ?_
    refine lv_iload_n cx.1 cx.2.1 dX9_law_80 rfl (lv_at hl 1 rfl) ?_
    refine lv_i2l (v := y10.toInt64) cx.1 cx.2.1 dX9_law_81 rfl ?_
    obtain ⟨q17, e18, hf⟩ := bd_elim hf
    refine r_Vv (rest := []) cx wo (mX5_tellBoth l e18) cvX9_227 rfl ad_4.1 ad_4.2.1 ad_4.2.2 rfl rfl hl.1 rfl (Nat.le_of_ble_eq_true rfl) (hR_ok (by decide)) dX9_law_82 (fun H locs wo => ?_)
    refine lv_iconst (v := 0) cx.1 cx.2.1 dX9_law_85 (by decide) ?_
    refine lv_istore (lv' := [(4, .int 0), (3, .int q15.1), (2, .int y10), (1, .int q2.1), (0, .ref (B + 1))]) cx.1 cx.2.1 dX9_law_86 hl (by decide) rfl (fun ls hl => ?_)
    exact wX9_law_88 cx hr hlk _ _ _ _ _ _ hf _ _ _ wo (lv_sub hl [4, 2, 1, 0] rfl)
  · rw [if_neg c6] at hf
    refine lv_sipush (v := (-10000)) cx.1 cx.2.1 dX9_law_20 (by decide) ?_
    refine lv_iload_n cx.1 cx.2.1 dX9_law_23 rfl (lv_at hl 0 rfl) ?_
    refine lv_isub cx.1 cx.2.1 dX9_law_24 ?_
    have hq := Option.some.inj hf
    subst hq
    exact r_iret cx wo hr hlk dX9_law_25
set_option maxHeartbeats 1000000 in
set_option maxRecDepth 10000 in
theorem wX9_spurtGain_10 (cx : Cx p s m args c cX9_spurtGain 3 RX9 G) (hr : meth.sig.returnType = (some .int)) (hlk : meth.locks = false) : ∀ (x0 : Int32) (x1 : Int32) (s0 : Int32)  (M : Mem) (q : Int32 × Mem), fX9_spurtGain_10 x0 x1 s0 M = some q → ∀ (H : Heap) (locs : List Loc) (ls : Array Slot), Wo Ph G B 205 s M H locs → lv_has ls 3 [(0, .int x0), (1, .int x1)] → W p l e (rmN (2)) s m args below meth c H locs 0 0 (MQ below (QcI Ph G B 205 q.1 q.2) args s 0 0 (fr B)) (F0 m 10 ls [.int s0]) := by
  intro x0 x1 s0 M q hf H locs ls wo hl
  unfold fX9_spurtGain_10 at hf
  refine lv_iload_n cx.1 cx.2.1 dX9_spurtGain_10 rfl (lv_at hl 0 rfl) ?_
  refine lv_isub cx.1 cx.2.1 dX9_spurtGain_11 ?_
  refine lv_iload_n cx.1 cx.2.1 dX9_spurtGain_12 rfl (lv_at hl 0 rfl) ?_
  refine lv_iload_n cx.1 cx.2.1 dX9_spurtGain_13 rfl (lv_at hl 1 rfl) ?_
  refine lv_icmp_ge (tgt := 21) cx.1 cx.2.1 dX9_spurtGain_14 (by decide) (fun c2 => ?_) (fun c2 => ?_)
  · rw [if_pos c2] at hf
    refine lv_iconst (v := 0) cx.1 cx.2.1 dX9_spurtGain_21 (by decide) ?_
    refine lv_isub cx.1 cx.2.1 dX9_spurtGain_22 ?_
    have hq := Option.some.inj hf
    subst hq
    exact r_iret cx wo hr hlk dX9_spurtGain_23
  · rw [if_neg c2] at hf
    refine lv_iconst (v := 1) cx.1 cx.2.1 dX9_spurtGain_17 (by decide) ?_
    refine lv_goto (tgt := 22) cx.1 cx.2.1 dX9_spurtGain_18 (by decide) ?_
    refine lv_isub cx.1 cx.2.1 dX9_spurtGain_22 ?_
    have hq := Option.some.inj hf
    subst hq
    exact r_iret cx wo hr hlk dX9_spurtGain_23
set_option maxHeartbeats 1000000 in
set_option maxRecDepth 10000 in
theorem mX9_spurtGain (l : Launch) {G : GG} {B : Nat} {x0 : Int32} {x1 : Int32} {x2 : Int32}  {M : Mem} {q : Int32 × Mem} (hf : fX9_spurtGain x0 x1 x2 M = some q) : Met l yX9_spurtGain (wsG yX9_spurtGain cX9_spurtGain 3 (some .int)) (rmN (2)) (PcW Ph G B 205 M [.int x0, .int x1, .int x2]) (QcI Ph G B 205 q.1 q.2) 0 0 (fr B) := by
  refine mk_Met (own := RX9) rfl rfl (Nat.le_of_ble_eq_true rfl) ?_
  intro p e s m below meth c ls cx hr hlk wo hl
  have hl : lv_has ls 3 [(0, .int x0), (1, .int x1), (2, .int x2)] := hl
  unfold fX9_spurtGain at hf
  refine lv_iload_n cx.1 cx.2.1 dX9_spurtGain_0 rfl (lv_at hl 0 rfl) ?_
  refine lv_iload_n cx.1 cx.2.1 dX9_spurtGain_1 rfl (lv_at hl 1 rfl) ?_
  refine lv_icmp_le (tgt := 9) cx.1 cx.2.1 dX9_spurtGain_2 (by decide) (fun c1 => ?_) (fun c1 => ?_)
  · rw [if_pos c1] at hf
    refine lv_iconst (v := 0) cx.1 cx.2.1 dX9_spurtGain_9 (by decide) ?_
    exact wX9_spurtGain_10 cx hr hlk _ _ _ _ _ hf _ _ _ wo (lv_sub hl [0, 1] rfl)
  · rw [if_neg c1] at hf
    refine lv_iload_n cx.1 cx.2.1 dX9_spurtGain_5 rfl (lv_at hl 2 rfl) ?_
    refine lv_goto (tgt := 10) cx.1 cx.2.1 dX9_spurtGain_6 (by decide) ?_
    exact wX9_spurtGain_10 cx hr hlk _ _ _ _ _ hf _ _ _ wo (lv_sub hl [0, 1] rfl)
set_option maxHeartbeats 1000000 in
set_option maxRecDepth 10000 in
theorem wX9_isBestSpurt_10 (cx : Cx p s m args c cX9_isBestSpurt 5 RX9 G) (hr : meth.sig.returnType = (some .boolean)) (hlk : meth.locks = false) : ∀ (n : Nat) (x1 : Int32) (x2 : Int32) (x3 : Int32) (x4 : Int32)  (M : Mem) (q : Int32 × Mem), fX9_isBestSpurt_10 n x1 x2 x3 x4 M = some q → ∀ (H : Heap) (locs : List Loc) (ls : Array Slot), Wo Ph G B 205 s M H locs → lv_has ls 5 [(1, .int x1), (2, .int x2), (3, .int x3), (4, .int x4)] → W p l e (rmN (3)) s m args below meth c H locs 0 0 (MQ below (QcI Ph G B 205 q.1 q.2) args s 0 0 (fr B)) (F0 m 10 ls []) := by
  intro n
  induction n with
  | zero =>
    intro x1 x2 x3 x4 M q hf H locs ls wo hl
    have hf : none = some q := hf
    cases hf
  | succ n ih =>
    intro x1 x2 x3 x4 M q hf H locs ls wo hl
    rw [fX9_isBestSpurt_10] at hf
    refine lv_iload cx.1 cx.2.1 dX9_isBestSpurt_10 (lv_at hl 3 rfl) ?_
    refine lv_bipush (v := 9) cx.1 cx.2.1 dX9_isBestSpurt_12 (by decide) ?_
    refine lv_icmp_gt (tgt := 36) cx.1 cx.2.1 dX9_isBestSpurt_14 (by decide) (fun c3 => ?_) (fun c3 => ?_)
    · rw [if_pos c3] at hf
      refine lv_iconst (v := 1) cx.1 cx.2.1 dX9_isBestSpurt_36 (by decide) ?_
      have hq := Option.some.inj hf
      subst hq
      exact r_zret cx wo hr hlk (Or.inr rfl) dX9_isBestSpurt_37
    · rw [if_neg c3] at hf
      refine lv_iload cx.1 cx.2.1 dX9_isBestSpurt_17 (lv_at hl 3 rfl) ?_
      refine lv_iload_n cx.1 cx.2.1 dX9_isBestSpurt_19 rfl (lv_at hl 0 rfl) ?_
      refine lv_iload_n cx.1 cx.2.1 dX9_isBestSpurt_20 rfl (lv_at hl 1 rfl) ?_
      obtain ⟨q4, e5, hf⟩ := bd_elim hf
      refine r_Si (rest := []) cx wo (mX9_spurtGain l e5) csX9_435 rfl hl.1 rfl (Nat.le_of_ble_eq_true rfl) (hR_ok (by decide)) dX9_isBestSpurt_21 (fun H locs wo => ?_)
      refine lv_iload_n cx.1 cx.2.1 dX9_isBestSpurt_24 rfl (lv_at hl 2 rfl) ?_
      refine lv_icmp_le (tgt := 30) cx.1 cx.2.1 dX9_isBestSpurt_25 (by decide) (fun c6 => ?_) (fun c6 => ?_)
      · rw [if_pos c6] at hf
        obtain ⟨y7, e8, hf⟩ := lt_elim hf
        refine lv_iinc (v := y7) (lv' := [(4, .int y7), (1, .int x1), (2, .int x2), (3, .int x3)]) cx.1 cx.2.1 dX9_isBestSpurt_30 hl (k := 3) rfl (by rw [e8]; rfl) (by decide) rfl (fun ls hl => ?_)
        refine lv_goto (tgt := 10) cx.1 cx.2.1 dX9_isBestSpurt_33 (by decide) ?_
        exact ih _ _ _ _ _ _ hf _ _ _ wo (lv_sub hl [1, 2, 3, 0] rfl)
      · rw [if_neg c6] at hf
        refine lv_iconst (v := 0) cx.1 cx.2.1 dX9_isBestSpurt_28 (by decide) ?_
        have hq := Option.some.inj hf
        subst hq
        exact r_zret cx wo hr hlk (Or.inl rfl) dX9_isBestSpurt_29
set_option maxHeartbeats 1000000 in
set_option maxRecDepth 10000 in
theorem mX9_isBestSpurt (l : Launch) {G : GG} {B : Nat} {x0 : Int32} {x1 : Int32} {x2 : Int32}  {M : Mem} {q : Int32 × Mem} (hf : fX9_isBestSpurt x0 x1 x2 M = some q) : Met l yX9_isBestSpurt (wsG yX9_isBestSpurt cX9_isBestSpurt 5 (some .boolean)) (rmN (3)) (PcW Ph G B 205 M [.int x0, .int x1, .int x2]) (QcI Ph G B 205 q.1 q.2) 0 0 (fr B) := by
  refine mk_Met (own := RX9) rfl rfl (Nat.le_of_ble_eq_true rfl) ?_
  intro p e s m below meth c ls cx hr hlk wo hl
  have hl : lv_has ls 5 [(0, .int x0), (1, .int x1), (2, .int x2)] := hl
  unfold fX9_isBestSpurt at hf
  refine lv_iload_n cx.1 cx.2.1 dX9_isBestSpurt_0 rfl (lv_at hl 0 rfl) ?_
  refine lv_iload_n cx.1 cx.2.1 dX9_isBestSpurt_1 rfl (lv_at hl 1 rfl) ?_
  refine lv_iload_n cx.1 cx.2.1 dX9_isBestSpurt_2 rfl (lv_at hl 2 rfl) ?_
  obtain ⟨q1, e2, hf⟩ := bd_elim hf
  refine r_Si (rest := []) cx wo (mX9_spurtGain l e2) csX9_435 rfl hl.1 rfl (Nat.le_of_ble_eq_true rfl) (hR_ok (by decide)) dX9_isBestSpurt_3 (fun H locs wo => ?_)
  refine lv_istore_n (lv' := [(3, .int q1.1), (0, .int x0), (1, .int x1), (2, .int x2)]) cx.1 cx.2.1 dX9_isBestSpurt_6 rfl hl (by decide) rfl (fun ls hl => ?_)
  refine lv_iconst (v := 0) cx.1 cx.2.1 dX9_isBestSpurt_7 (by decide) ?_
  refine lv_istore (lv' := [(4, .int 0), (3, .int q1.1), (0, .int x0), (1, .int x1), (2, .int x2)]) cx.1 cx.2.1 dX9_isBestSpurt_8 hl (by decide) rfl (fun ls hl => ?_)
  exact wX9_isBestSpurt_10 cx hr hlk _ _ _ _ _ _ _ hf _ _ _ wo (lv_sub hl [3, 4, 1, 0] rfl)
set_option maxHeartbeats 1000000 in
set_option maxRecDepth 10000 in
theorem wX9_crews_33 (cx : Cx p s m args c cX9_crews 5 RX9 G) (hr : meth.sig.returnType = (some .int)) (hlk : meth.locks = false) {k24 : Int32 → Int32 → Int32 → Mem → Option (Int32 × Mem)} (hk24 : ∀ (x1 : Int32) (x2 : Int32) (x3 : Int32)  (M : Mem) (q : Int32 × Mem), k24 x1 x2 x3 M = some q → ∀ (H : Heap) (locs : List Loc) (ls : Array Slot), Wo Ph G B 205 s M H locs → lv_has ls 5 [(0, .ref (B + 1)), (1, .int x1), (2, .int x2), (3, .int x3)] → W p l e (rmN (4)) s m args below meth c H locs 0 0 (MQ below (QcI Ph G B 205 q.1 q.2) args s 0 0 (fr B)) (F0 m 24 ls [])) : ∀ (n : Nat) (x1 : Int32) (x2 : Int32) (x3 : Int32) (x4 : Int32)  (M : Mem) (q : Int32 × Mem), fX9_crews_33 k24 n x1 x2 x3 x4 M = some q → ∀ (H : Heap) (locs : List Loc) (ls : Array Slot), Wo Ph G B 205 s M H locs → lv_has ls 5 [(0, .ref (B + 1)), (1, .int x1), (2, .int x2), (3, .int x3), (4, .int x4)] → W p l e (rmN (4)) s m args below meth c H locs 0 0 (MQ below (QcI Ph G B 205 q.1 q.2) args s 0 0 (fr B)) (F0 m 33 ls []) := by
  intro n
  induction n with
  | zero =>
    intro x1 x2 x3 x4 M q hf H locs ls wo hl
    have hf : none = some q := hf
    cases hf
  | succ n ih =>
    intro x1 x2 x3 x4 M q hf H locs ls wo hl
    rw [fX9_crews_33] at hf
    refine lv_iload cx.1 cx.2.1 dX9_crews_33 (lv_at hl 4 rfl) ?_
    refine lv_bipush (v := 9) cx.1 cx.2.1 dX9_crews_35 (by decide) ?_
    refine lv_icmp_gt (tgt := 85) cx.1 cx.2.1 dX9_crews_37 (by decide) (fun c6 => ?_) (fun c6 => ?_)
    · rw [if_pos c6] at hf
      obtain ⟨y7, e8, hf⟩ := lt_elim hf
      refine lv_iinc (v := y7) (lv' := [(3, .int y7), (0, .ref (B + 1)), (1, .int x1), (2, .int x2), (4, .int x4)]) cx.1 cx.2.1 dX9_crews_85 hl (k := 3) rfl (by rw [e8]; rfl) (by decide) rfl (fun ls hl => ?_)
      refine lv_goto (tgt := 24) cx.1 cx.2.1 dX9_crews_88 (by decide) ?_
      exact hk24 _ _ _ _ _ hf _ _ _ wo (lv_sub hl [1, 2, 3, 0] rfl)
    · rw [if_neg c6] at hf
      refine lv_iload_n cx.1 cx.2.1 dX9_crews_40 rfl (lv_at hl 3 rfl) ?_
      refine lv_iload cx.1 cx.2.1 dX9_crews_41 (lv_at hl 4 rfl) ?_
      refine lv_iload_n cx.1 cx.2.1 dX9_crews_43 rfl (lv_at hl 1 rfl) ?_
      obtain ⟨q9, e10, hf⟩ := bd_elim hf
      refine r_Si (rest := []) cx wo (mX9_isBestSpurt l e10) csX9_395 rfl hl.1 rfl (Nat.le_of_ble_eq_true rfl) (hR_ok (by decide)) dX9_crews_44 (fun H locs wo => ?_)
      refine lv_if_eq (tgt := 79) cx.1 cx.2.1 dX9_crews_47 (by decide) (fun c11 => ?_) (fun c11 => ?_)
      · rw [if_pos c11] at hf
        obtain ⟨y12, e13, hf⟩ := lt_elim hf
        refine lv_iinc (v := y12) (lv' := [(4, .int y12), (0, .ref (B + 1)), (1, .int x1), (2, .int x2), (3, .int x3)]) cx.1 cx.2.1 dX9_crews_79 hl (k := 4) rfl (by rw [e13]; rfl) (by decide) rfl (fun ls hl => ?_)
        refine lv_goto (tgt := 33) cx.1 cx.2.1 dX9_crews_82 (by decide) ?_
        exact ih _ _ _ _ _ _ hf _ _ _ wo (lv_sub hl [1, 2, 3, 4, 0] rfl)
      · rw [if_neg c11] at hf
        refine lv_iload cx.1 cx.2.1 dX9_crews_50 (lv_at hl 4 rfl) ?_
        refine lv_iload_n cx.1 cx.2.1 dX9_crews_52 rfl (lv_at hl 3 rfl) ?_
        refine lv_iload_n cx.1 cx.2.1 dX9_crews_53 rfl (lv_at hl 1 rfl) ?_
        obtain ⟨q14, e15, hf⟩ := bd_elim hf
        refine r_Si (rest := []) cx wo (mX9_isBestSpurt l e15) csX9_395 rfl hl.1 rfl (Nat.le_of_ble_eq_true rfl) (hR_ok (by decide)) dX9_crews_54 (fun H locs wo => ?_)
        refine lv_if_eq (tgt := 79) cx.1 cx.2.1 dX9_crews_57 (by decide) (fun c16 => ?_) (fun c16 => ?_)
        · rw [if_pos c16] at hf
          obtain ⟨y17, e18, hf⟩ := lt_elim hf
          refine lv_iinc (v := y17) (lv' := [(4, .int y17), (0, .ref (B + 1)), (1, .int x1), (2, .int x2), (3, .int x3)]) cx.1 cx.2.1 dX9_crews_79 hl (k := 4) rfl (by rw [e18]; rfl) (by decide) rfl (fun ls hl => ?_)
          refine lv_goto (tgt := 33) cx.1 cx.2.1 dX9_crews_82 (by decide) ?_
          exact ih _ _ _ _ _ _ hf _ _ _ wo (lv_sub hl [1, 2, 3, 4, 0] rfl)
        · rw [if_neg c16] at hf
          refine lv_iload_n cx.1 cx.2.1 dX9_crews_60 rfl (lv_at hl 2 rfl) ?_
          refine lv_if_ne (tgt := 76) cx.1 cx.2.1 dX9_crews_61 (by decide) (fun c19 => ?_) (fun c19 => ?_)
          · rw [if_neg c19] at hf
            obtain ⟨y20, e21, hf⟩ := lt_elim hf
            refine lv_iinc (v := y20) (lv' := [(2, .int y20), (0, .ref (B + 1)), (1, .int x1), (3, .int x3), (4, .int x4)]) cx.1 cx.2.1 dX9_crews_76 hl (k := 2) rfl (by rw [e21]; rfl) (by decide) rfl (fun ls hl => ?_)
            obtain ⟨y22, e23, hf⟩ := lt_elim hf
            refine lv_iinc (v := y22) (lv' := [(4, .int y22), (2, .int y20), (0, .ref (B + 1)), (1, .int x1), (3, .int x3)]) cx.1 cx.2.1 dX9_crews_79 hl (k := 4) rfl (by rw [e23]; rfl) (by decide) rfl (fun ls hl => ?_)
            refine lv_goto (tgt := 33) cx.1 cx.2.1 dX9_crews_82 (by decide) ?_
            exact ih _ _ _ _ _ _ hf _ _ _ wo (lv_sub hl [2, 3, 1, 4, 0] rfl)
          · rw [if_pos c19] at hf
            refine lv_aload_n cx.1 cx.2.1 dX9_crews_64 rfl (lv_at hl 0 rfl) ?_
            refine r_getR cx wo ad_1.1 ad_1.2.1 ad_1.2.2 fiX9_19 (fn_1_1 wo.2.2.2.1) (by decide) dX9_crews_65 ?_
            refine lv_iload_n cx.1 cx.2.1 dX9_crews_68 rfl (lv_at hl 3 rfl) ?_
            refine lv_i2l (v := x3.toInt64) cx.1 cx.2.1 dX9_crews_69 rfl ?_
            refine lv_iload cx.1 cx.2.1 dX9_crews_70 (lv_at hl 4 rfl) ?_
            refine lv_i2l (v := x4.toInt64) cx.1 cx.2.1 dX9_crews_72 rfl ?_
            obtain ⟨q24, e25, hf⟩ := bd_elim hf
            refine r_Vv (rest := []) cx wo (mX5_tellBoth l e25) cvX9_227 rfl ad_4.1 ad_4.2.1 ad_4.2.2 rfl rfl hl.1 rfl (Nat.le_of_ble_eq_true rfl) (hR_ok (by decide)) dX9_crews_73 (fun H locs wo => ?_)
            obtain ⟨y26, e27, hf⟩ := lt_elim hf
            refine lv_iinc (v := y26) (lv' := [(2, .int y26), (0, .ref (B + 1)), (1, .int x1), (3, .int x3), (4, .int x4)]) cx.1 cx.2.1 dX9_crews_76 hl (k := 2) rfl (by rw [e27]; rfl) (by decide) rfl (fun ls hl => ?_)
            obtain ⟨y28, e29, hf⟩ := lt_elim hf
            refine lv_iinc (v := y28) (lv' := [(4, .int y28), (2, .int y26), (0, .ref (B + 1)), (1, .int x1), (3, .int x3)]) cx.1 cx.2.1 dX9_crews_79 hl (k := 4) rfl (by rw [e29]; rfl) (by decide) rfl (fun ls hl => ?_)
            refine lv_goto (tgt := 33) cx.1 cx.2.1 dX9_crews_82 (by decide) ?_
            exact ih _ _ _ _ _ _ hf _ _ _ wo (lv_sub hl [2, 3, 1, 4, 0] rfl)
set_option maxHeartbeats 1000000 in
set_option maxRecDepth 10000 in
theorem wX9_crews_24 (cx : Cx p s m args c cX9_crews 5 RX9 G) (hr : meth.sig.returnType = (some .int)) (hlk : meth.locks = false) : ∀ (n : Nat) (x1 : Int32) (x2 : Int32) (x3 : Int32)  (M : Mem) (q : Int32 × Mem), fX9_crews_24 n x1 x2 x3 M = some q → ∀ (H : Heap) (locs : List Loc) (ls : Array Slot), Wo Ph G B 205 s M H locs → lv_has ls 5 [(0, .ref (B + 1)), (1, .int x1), (2, .int x2), (3, .int x3)] → W p l e (rmN (4)) s m args below meth c H locs 0 0 (MQ below (QcI Ph G B 205 q.1 q.2) args s 0 0 (fr B)) (F0 m 24 ls []) := by
  intro n
  induction n with
  | zero =>
    intro x1 x2 x3 M q hf H locs ls wo hl
    have hf : none = some q := hf
    cases hf
  | succ n ih =>
    intro x1 x2 x3 M q hf H locs ls wo hl
    rw [fX9_crews_24] at hf
    refine lv_iload_n cx.1 cx.2.1 dX9_crews_24 rfl (lv_at hl 3 rfl) ?_
    refine lv_bipush (v := 9) cx.1 cx.2.1 dX9_crews_25 (by decide) ?_
    refine lv_icmp_gt (tgt := 91) cx.1 cx.2.1 dX9_crews_27 (by decide) (fun c5 => ?_) (fun c5 => ?_)
    · rw [if_pos c5] at hf
      refine lv_iload_n cx.1 cx.2.1 dX9_crews_91 rfl (lv_at hl 2 rfl) ?_
      have hq := Option.some.inj hf
      subst hq
      exact r_iret cx wo hr hlk dX9_crews_92
    · rw [if_neg c5] at hf
      refine lv_iconst (v := 0) cx.1 cx.2.1 dX9_crews_30 (by decide) ?_
      refine lv_istore (lv' := [(4, .int 0), (0, .ref (B + 1)), (1, .int x1), (2, .int x2), (3, .int x3)]) cx.1 cx.2.1 dX9_crews_31 hl (by decide) rfl (fun ls hl => ?_)
      exact wX9_crews_33 cx hr hlk ih _ _ _ _ _ _ _ hf _ _ _ wo (lv_sub hl [1, 2, 3, 4, 0] rfl)
set_option maxHeartbeats 1000000 in
set_option maxRecDepth 10000 in
theorem mX9_crews (l : Launch) {G : GG} {B : Nat} {x1 : Int32}  {M : Mem} {q : Int32 × Mem} (hf : fX9_crews x1 M = some q) : Met l yX9_crews (wsG yX9_crews cX9_crews 5 (some .int)) (rmN (4)) (PcW Ph G B 205 M [.ref (B + 1), .int x1]) (QcI Ph G B 205 q.1 q.2) 0 0 (fr B) := by
  refine mk_Met (own := RX9) rfl rfl (Nat.le_of_ble_eq_true rfl) ?_
  intro p e s m below meth c ls cx hr hlk wo hl
  have hl : lv_has ls 5 [(0, .ref (B + 1)), (1, .int x1)] := hl
  unfold fX9_crews at hf
  refine lv_iload_n cx.1 cx.2.1 dX9_crews_0 rfl (lv_at hl 1 rfl) ?_
  refine lv_if_lt (tgt := 10) cx.1 cx.2.1 dX9_crews_1 (by decide) (fun c1 => ?_) (fun c1 => ?_)
  · rw [if_pos c1] at hf
    refine lv_iconst (v := (-1)) cx.1 cx.2.1 dX9_crews_10 (by decide) ?_
    have hq := Option.some.inj hf
    subst hq
    exact r_iret cx wo hr hlk dX9_crews_11
  · rw [if_neg c1] at hf
    refine lv_iload_n cx.1 cx.2.1 dX9_crews_4 rfl (lv_at hl 1 rfl) ?_
    refine lv_bipush (v := 20) cx.1 cx.2.1 dX9_crews_5 (by decide) ?_
    refine lv_icmp_le (tgt := 12) cx.1 cx.2.1 dX9_crews_7 (by decide) (fun c2 => ?_) (fun c2 => ?_)
    · rw [if_pos c2] at hf
      refine lv_aload_n cx.1 cx.2.1 dX9_crews_12 rfl (lv_at hl 0 rfl) ?_
      refine r_getR cx wo ad_1.1 ad_1.2.1 ad_1.2.2 fiX9_19 (fn_1_1 wo.2.2.2.1) (by decide) dX9_crews_13 ?_
      refine lv_iconst (v := 0) cx.1 cx.2.1 dX9_crews_16 (by decide) ?_
      obtain ⟨M3, e4, hf⟩ := lt_elim hf
      refine r_putI cx wo ad_4.1 ad_4.2.1 ad_4.2.2 fpX9_235 dX9_crews_17 (fun H locs wo => ?_)
      rw [← e4] at wo
      refine lv_iconst (v := 0) cx.1 cx.2.1 dX9_crews_20 (by decide) ?_
      refine lv_istore_n (lv' := [(2, .int 0), (0, .ref (B + 1)), (1, .int x1)]) cx.1 cx.2.1 dX9_crews_21 rfl hl (by decide) rfl (fun ls hl => ?_)
      refine lv_iconst (v := 0) cx.1 cx.2.1 dX9_crews_22 (by decide) ?_
      refine lv_istore_n (lv' := [(3, .int 0), (2, .int 0), (0, .ref (B + 1)), (1, .int x1)]) cx.1 cx.2.1 dX9_crews_23 rfl hl (by decide) rfl (fun ls hl => ?_)
      exact wX9_crews_24 cx hr hlk _ _ _ _ _ _ hf _ _ _ wo (lv_sub hl [2, 3, 1, 0] rfl)
    · rw [if_neg c2] at hf
      refine lv_iconst (v := (-1)) cx.1 cx.2.1 dX9_crews_10 (by decide) ?_
      have hq := Option.some.inj hf
      subst hq
      exact r_iret cx wo hr hlk dX9_crews_11
set_option maxHeartbeats 1000000 in
set_option maxRecDepth 10000 in
theorem mX9_drawnTurn (l : Launch) {G : GG} {B : Nat}   {M : Mem} {q : Int32 × Mem} (hf : fX9_drawnTurn  M = some q) : Met l yX9_drawnTurn (wsG yX9_drawnTurn cX9_drawnTurn 3 (some .int)) (rmN (8)) (PcW Ph G B 205 M [.ref (B + 1)]) (QcI Ph G B 205 q.1 q.2) 0 0 (fr B) := by
  refine mk_Met (own := RX9) rfl rfl (Nat.le_of_ble_eq_true rfl) ?_
  intro p e s m below meth c ls cx hr hlk wo hl
  have hl : lv_has ls 3 [(0, .ref (B + 1))] := hl
  unfold fX9_drawnTurn at hf
  refine lv_aload_n cx.1 cx.2.1 dX9_drawnTurn_0 rfl (lv_at hl 0 rfl) ?_
  refine r_getR cx wo ad_1.1 ad_1.2.1 ad_1.2.2 fiX9_78 (fn_1_12 wo.2.2.2.1) (by decide) dX9_drawnTurn_1 ?_
  refine lv_iconst (v := 4) cx.1 cx.2.1 dX9_drawnTurn_4 (by decide) ?_
  obtain ⟨q1, e2, hf⟩ := bd_elim hf
  refine r_Vi (rest := []) cx wo (mX0_draw l e2) cvX9_438 rfl ad_141.1 ad_141.2.1 ad_141.2.2 rfl rfl hl.1 rfl (Nat.le_of_ble_eq_true rfl) (hR_ok (by decide)) dX9_drawnTurn_5 (fun H locs wo => ?_)
  refine lv_istore_n (lv' := [(1, .int q1.1), (0, .ref (B + 1))]) cx.1 cx.2.1 dX9_drawnTurn_8 rfl hl (by decide) rfl (fun ls hl => ?_)
  refine lv_iload_n cx.1 cx.2.1 dX9_drawnTurn_9 rfl (lv_at hl 0 rfl) ?_
  refine lv_iconst (v := 2) cx.1 cx.2.1 dX9_drawnTurn_10 (by decide) ?_
  refine lv_icmp_ge (tgt := 28) cx.1 cx.2.1 dX9_drawnTurn_11 (by decide) (fun c3 => ?_) (fun c3 => ?_)
  · rw [if_pos c3] at hf
    refine lv_aload_n cx.1 cx.2.1 dX9_drawnTurn_28 rfl (lv_at hl 1 rfl) ?_
    refine r_getR cx wo ad_1.1 ad_1.2.1 ad_1.2.2 fiX9_33 (fn_1_4 wo.2.2.2.1) (by decide) dX9_drawnTurn_29 ?_
    refine r_getI cx wo ad_16.1 ad_16.2.1 ad_16.2.2 fiX9_282 dX9_drawnTurn_32 ?_
    refine lv_if_ne (tgt := 40) cx.1 cx.2.1 dX9_drawnTurn_35 (by decide) (fun c4 => ?_) (fun c4 => ?_)
    · rw [if_neg c4] at hf
      refine lv_aload_n cx.1 cx.2.1 dX9_drawnTurn_40 rfl (lv_at hl 1 rfl) ?_
      refine r_getR cx wo ad_1.1 ad_1.2.1 ad_1.2.2 fiX9_78 (fn_1_12 wo.2.2.2.1) (by decide) dX9_drawnTurn_41 ?_
      refine lv_aload_n cx.1 cx.2.1 dX9_drawnTurn_44 rfl (lv_at hl 1 rfl) ?_
      refine r_getR cx wo ad_1.1 ad_1.2.1 ad_1.2.2 fiX9_33 (fn_1_4 wo.2.2.2.1) (by decide) dX9_drawnTurn_45 ?_
      refine r_getI cx wo ad_16.1 ad_16.2.1 ad_16.2.2 fiX9_282 dX9_drawnTurn_48 ?_
      obtain ⟨q5, e6, hf⟩ := bd_elim hf
      refine r_Vi (rest := []) cx wo (mX0_draw l e6) cvX9_438 rfl ad_141.1 ad_141.2.1 ad_141.2.2 rfl rfl hl.1 rfl (Nat.le_of_ble_eq_true rfl) (hR_ok (by decide)) dX9_drawnTurn_51 (fun H locs wo => ?_)
      refine lv_istore_n (lv' := [(2, .int q5.1), (1, .int q1.1), (0, .ref (B + 1))]) cx.1 cx.2.1 dX9_drawnTurn_54 rfl hl (by decide) rfl (fun ls hl => ?_)
      refine lv_iload_n cx.1 cx.2.1 dX9_drawnTurn_55 rfl (lv_at hl 1 rfl) ?_
      refine lv_iconst (v := 2) cx.1 cx.2.1 dX9_drawnTurn_56 (by decide) ?_
      refine lv_icmp_ne (tgt := 83) cx.1 cx.2.1 dX9_drawnTurn_57 (by decide) (fun c7 => ?_) (fun c7 => ?_)
      · rw [if_neg c7] at hf
        refine lv_aload_n cx.1 cx.2.1 dX9_drawnTurn_83 rfl (lv_at hl 2 rfl) ?_
        refine r_getR cx wo ad_1.1 ad_1.2.1 ad_1.2.2 fiX9_33 (fn_1_4 wo.2.2.2.1) (by decide) dX9_drawnTurn_84 ?_
        refine lv_iload_n cx.1 cx.2.1 dX9_drawnTurn_87 rfl (lv_at hl 0 rfl) ?_
        obtain ⟨q8, e9, hf⟩ := bd_elim hf
        refine r_Vi (rest := []) cx wo (mX4_moveToFoot l (by decide) e9) cvX9_193 rfl ad_16.1 ad_16.2.1 ad_16.2.2 rfl rfl hl.1 rfl (Nat.le_of_ble_eq_true rfl) (hR_ok (by decide)) dX9_drawnTurn_88 (fun H locs wo => ?_)
        refine lv_pop cx.1 cx.2.1 dX9_drawnTurn_91 rfl ?_
        refine lv_iconst (v := 0) cx.1 cx.2.1 dX9_drawnTurn_92 (by decide) ?_
        have hq := Option.some.inj hf
        subst hq
        exact r_iret cx wo hr hlk dX9_drawnTurn_93
      · rw [if_pos c7] at hf
        refine lv_aload_n cx.1 cx.2.1 dX9_drawnTurn_60 rfl (lv_at hl 2 rfl) ?_
        refine r_getR cx wo ad_1.1 ad_1.2.1 ad_1.2.2 fiX9_33 (fn_1_4 wo.2.2.2.1) (by decide) dX9_drawnTurn_61 ?_
        refine lv_iload_n cx.1 cx.2.1 dX9_drawnTurn_64 rfl (lv_at hl 0 rfl) ?_
        refine lv_aload_n cx.1 cx.2.1 dX9_drawnTurn_65 rfl (lv_at hl 2 rfl) ?_
        refine r_getR cx wo ad_1.1 ad_1.2.1 ad_1.2.2 fiX9_78 (fn_1_12 wo.2.2.2.1) (by decide) dX9_drawnTurn_66 ?_
        refine lv_bipush (v := 9) cx.1 cx.2.1 dX9_drawnTurn_69 (by decide) ?_
        obtain ⟨q10, e11, hf⟩ := bd_elim hf
        refine r_Vi (rest := [.int q5.1, .ref (B + 16)]) cx wo (mX0_draw l e11) cvX9_438 rfl ad_141.1 ad_141.2.1 ad_141.2.2 rfl rfl hl.1 rfl (Nat.le_of_ble_eq_true rfl) (hR_ok (by decide)) dX9_drawnTurn_71 (fun H locs wo => ?_)
        refine lv_iconst (v := 1) cx.1 cx.2.1 dX9_drawnTurn_74 (by decide) ?_
        refine lv_iadd cx.1 cx.2.1 dX9_drawnTurn_75 ?_
        obtain ⟨q12, e13, hf⟩ := bd_elim hf
        refine r_Vi (rest := []) cx wo (mX4_setPace l (by decide) e13) cvX9_202 rfl ad_16.1 ad_16.2.1 ad_16.2.2 rfl rfl hl.1 rfl (Nat.le_of_ble_eq_true rfl) (hR_ok (by decide)) dX9_drawnTurn_76 (fun H locs wo => ?_)
        refine lv_pop cx.1 cx.2.1 dX9_drawnTurn_79 rfl ?_
        refine lv_goto (tgt := 92) cx.1 cx.2.1 dX9_drawnTurn_80 (by decide) ?_
        refine lv_iconst (v := 0) cx.1 cx.2.1 dX9_drawnTurn_92 (by decide) ?_
        have hq := Option.some.inj hf
        subst hq
        exact r_iret cx wo hr hlk dX9_drawnTurn_93
    · rw [if_pos c4] at hf
      refine lv_iconst (v := 0) cx.1 cx.2.1 dX9_drawnTurn_38 (by decide) ?_
      have hq := Option.some.inj hf
      subst hq
      exact r_iret cx wo hr hlk dX9_drawnTurn_39
  · rw [if_neg c3] at hf
    refine lv_aload_n cx.1 cx.2.1 dX9_drawnTurn_14 rfl (lv_at hl 1 rfl) ?_
    refine lv_aload_n cx.1 cx.2.1 dX9_drawnTurn_15 rfl (lv_at hl 1 rfl) ?_
    refine r_getR cx wo ad_1.1 ad_1.2.1 ad_1.2.2 fiX9_33 (fn_1_4 wo.2.2.2.1) (by decide) dX9_drawnTurn_16 ?_
    refine lv_aload_n cx.1 cx.2.1 dX9_drawnTurn_19 rfl (lv_at hl 1 rfl) ?_
    have hm14 : q1.2.2.2 1 17 ∈ rules := wo.2.2.2.1.2.2.1
    refine r_getR cx wo ad_1.1 ad_1.2.1 ad_1.2.2 fiX9_100 rfl (rul_ok _ hm14).1.1 dX9_drawnTurn_20 ?_
    refine lv_iconst (v := 1) cx.1 cx.2.1 dX9_drawnTurn_23 (by decide) ?_
    obtain ⟨q15, e16, hf⟩ := bd_elim hf
    refine r_Vi (rest := []) cx wo (mX9_passDays l (by decide) hm14 e16) cvX9_182 rfl ad_1.1 ad_1.2.1 ad_1.2.2 rfl rfl hl.1 rfl (Nat.le_of_ble_eq_true rfl) (hR_ok (by decide)) dX9_drawnTurn_24 (fun H locs wo => ?_)
    have hq := Option.some.inj hf
    subst hq
    exact r_iret cx wo hr hlk dX9_drawnTurn_27
set_option maxHeartbeats 1000000 in
set_option maxRecDepth 10000 in
theorem wX9_years_38 (cx : Cx p s m args c cX9_years 5 RX9 G) (hr : meth.sig.returnType = (some .int)) (hlk : meth.locks = false) : ∀ (n : Nat) (x2 : Int32) (x3 : Int32) (x4 : Int32)  (M : Mem) (q : Int32 × Mem), fX9_years_38 n x2 x3 x4 M = some q → ∀ (H : Heap) (locs : List Loc) (ls : Array Slot), Wo Ph G B 205 s M H locs → lv_has ls 5 [(0, .ref (B + 1)), (2, .int x2), (3, .int x3), (4, .int x4)] → W p l e (rmN (9)) s m args below meth c H locs 0 0 (MQ below (QcI Ph G B 205 q.1 q.2) args s 0 0 (fr B)) (F0 m 38 ls []) := by
  intro n
  induction n with
  | zero =>
    intro x2 x3 x4 M q hf H locs ls wo hl
    have hf : none = some q := hf
    cases hf
  | succ n ih =>
    intro x2 x3 x4 M q hf H locs ls wo hl
    rw [fX9_years_38] at hf
    refine lv_iload cx.1 cx.2.1 dX9_years_38 (lv_at hl 3 rfl) ?_
    refine lv_iload_n cx.1 cx.2.1 dX9_years_40 rfl (lv_at hl 1 rfl) ?_
    refine lv_icmp_ge (tgt := 57) cx.1 cx.2.1 dX9_years_41 (by decide) (fun c7 => ?_) (fun c7 => ?_)
    · rw [if_pos c7] at hf
      refine lv_aload_n cx.1 cx.2.1 dX9_years_57 rfl (lv_at hl 0 rfl) ?_
      refine r_getR cx wo ad_1.1 ad_1.2.1 ad_1.2.2 fiX9_19 (fn_1_1 wo.2.2.2.1) (by decide) dX9_years_58 ?_
      refine lv_iload_n cx.1 cx.2.1 dX9_years_61 rfl (lv_at hl 2 rfl) ?_
      refine lv_i2l (v := x3.toInt64) cx.1 cx.2.1 dX9_years_62 rfl ?_
      refine lv_aload_n cx.1 cx.2.1 dX9_years_63 rfl (lv_at hl 0 rfl) ?_
      refine r_getR cx wo ad_1.1 ad_1.2.1 ad_1.2.2 fiX9_33 (fn_1_4 wo.2.2.2.1) (by decide) dX9_years_64 ?_
      obtain ⟨q8, e9, hf⟩ := bd_elim hf
      refine r_Vi (rest := [.long x3.toInt64, .ref (B + 4)]) cx wo (mX4_sumOfTired l (by decide) e9) cvX9_405 rfl ad_16.1 ad_16.2.1 ad_16.2.2 rfl rfl hl.1 rfl (Nat.le_of_ble_eq_true rfl) (hR_ok (by decide)) dX9_years_67 (fun H locs wo => ?_)
      refine lv_i2l (v := q8.1.toInt64) cx.1 cx.2.1 dX9_years_70 rfl ?_
      obtain ⟨q10, e11, hf⟩ := bd_elim hf
      refine r_Vv (rest := []) cx wo (mX5_tellBoth l e11) cvX9_227 rfl ad_4.1 ad_4.2.1 ad_4.2.2 rfl rfl hl.1 rfl (Nat.le_of_ble_eq_true rfl) (hR_ok (by decide)) dX9_years_71 (fun H locs wo => ?_)
      refine lv_aload_n cx.1 cx.2.1 dX9_years_74 rfl (lv_at hl 0 rfl) ?_
      refine r_getR cx wo ad_1.1 ad_1.2.1 ad_1.2.2 fiX9_33 (fn_1_4 wo.2.2.2.1) (by decide) dX9_years_75 ?_
      refine lv_iconst (v := 0) cx.1 cx.2.1 dX9_years_78 (by decide) ?_
      obtain ⟨q12, e13, hf⟩ := bd_elim hf
      refine r_Vi (rest := []) cx wo (mX4_boatOn l (by decide) e13) cvX9_154 rfl ad_16.1 ad_16.2.1 ad_16.2.2 rfl rfl hl.1 rfl (Nat.le_of_ble_eq_true rfl) (hR_ok (by decide)) dX9_years_79 (fun H locs wo => ?_)
      have hq := Option.some.inj hf
      subst hq
      exact r_iret cx wo hr hlk dX9_years_82
    · rw [if_neg c7] at hf
      refine lv_iload_n cx.1 cx.2.1 dX9_years_44 rfl (lv_at hl 2 rfl) ?_
      refine lv_aload_n cx.1 cx.2.1 dX9_years_45 rfl (lv_at hl 0 rfl) ?_
      obtain ⟨q14, e15, hf⟩ := bd_elim hf
      refine r_Vi (rest := [.int x3]) cx wo (mX9_drawnTurn l e15) cvX9_402 rfl ad_1.1 ad_1.2.1 ad_1.2.2 rfl rfl hl.1 rfl (Nat.le_of_ble_eq_true rfl) (hR_ok (by decide)) dX9_years_46 (fun H locs wo => ?_)
      refine lv_iadd cx.1 cx.2.1 dX9_years_49 ?_
      obtain ⟨y16, e17, hf⟩ := lt_elim hf
      refine r_topi e17 ?_
      refine lv_istore_n (lv' := [(3, .int y16), (0, .ref (B + 1)), (2, .int x2), (4, .int x4)]) cx.1 cx.2.1 dX9_years_50 rfl hl (by decide) rfl (fun ls hl => ?_)
      obtain ⟨y18, e19, hf⟩ := lt_elim hf
      refine lv_iinc (v := y18) (lv' := [(4, .int y18), (3, .int y16), (0, .ref (B + 1)), (2, .int x2)]) cx.1 cx.2.1 dX9_years_51 hl (k := 3) rfl (by rw [e19]; rfl) (by decide) rfl (fun ls hl => ?_)
      refine lv_goto (tgt := 38) cx.1 cx.2.1 dX9_years_54 (by decide) ?_
      exact ih _ _ _ _ _ hf _ _ _ wo (lv_sub hl [2, 3, 1, 0] rfl)
set_option maxHeartbeats 1000000 in
set_option maxRecDepth 10000 in
theorem mX9_years (l : Launch) {G : GG} {B : Nat} {x1 : Int32} {x2 : Int32}  {M : Mem} {q : Int32 × Mem} (hf : fX9_years x1 x2 M = some q) : Met l yX9_years (wsG yX9_years cX9_years 5 (some .int)) (rmN (9)) (PcW Ph G B 205 M [.ref (B + 1), .int x1, .int x2]) (QcI Ph G B 205 q.1 q.2) 0 0 (fr B) := by
  refine mk_Met (own := RX9) rfl rfl (Nat.le_of_ble_eq_true rfl) ?_
  intro p e s m below meth c ls cx hr hlk wo hl
  have hl : lv_has ls 5 [(0, .ref (B + 1)), (1, .int x1), (2, .int x2)] := hl
  unfold fX9_years at hf
  refine lv_iload_n cx.1 cx.2.1 dX9_years_0 rfl (lv_at hl 2 rfl) ?_
  refine lv_iconst (v := 1) cx.1 cx.2.1 dX9_years_1 (by decide) ?_
  refine lv_icmp_lt (tgt := 11) cx.1 cx.2.1 dX9_years_2 (by decide) (fun c1 => ?_) (fun c1 => ?_)
  · rw [if_pos c1] at hf
    refine lv_bipush (v := (-2)) cx.1 cx.2.1 dX9_years_11 (by decide) ?_
    have hq := Option.some.inj hf
    subst hq
    exact r_iret cx wo hr hlk dX9_years_13
  · rw [if_neg c1] at hf
    refine lv_iload_n cx.1 cx.2.1 dX9_years_5 rfl (lv_at hl 2 rfl) ?_
    refine lv_bipush (v := 60) cx.1 cx.2.1 dX9_years_6 (by decide) ?_
    refine lv_icmp_le (tgt := 14) cx.1 cx.2.1 dX9_years_8 (by decide) (fun c2 => ?_) (fun c2 => ?_)
    · rw [if_pos c2] at hf
      refine lv_aload_n cx.1 cx.2.1 dX9_years_14 rfl (lv_at hl 0 rfl) ?_
      refine r_getR cx wo ad_1.1 ad_1.2.1 ad_1.2.2 fiX9_33 (fn_1_4 wo.2.2.2.1) (by decide) dX9_years_15 ?_
      refine lv_aload_n cx.1 cx.2.1 dX9_years_18 rfl (lv_at hl 0 rfl) ?_
      refine r_getR cx wo ad_1.1 ad_1.2.1 ad_1.2.2 fiX9_26 (fn_1_2 wo.2.2.2.1) (by decide) dX9_years_19 ?_
      obtain ⟨q3, e4, hf⟩ := bd_elim hf
      refine r_Vv (rest := []) cx wo (mX4_copyFrom l (by decide) (by decide) e4) cvX9_190 rfl ad_16.1 ad_16.2.1 ad_16.2.2 rfl rfl hl.1 rfl (Nat.le_of_ble_eq_true rfl) (hR_ok (by decide)) dX9_years_22 (fun H locs wo => ?_)
      refine lv_aload_n cx.1 cx.2.1 dX9_years_25 rfl (lv_at hl 0 rfl) ?_
      refine r_getR cx wo ad_1.1 ad_1.2.1 ad_1.2.2 fiX9_78 (fn_1_12 wo.2.2.2.1) (by decide) dX9_years_26 ?_
      refine lv_iload_n cx.1 cx.2.1 dX9_years_29 rfl (lv_at hl 1 rfl) ?_
      obtain ⟨M5, e6, hf⟩ := lt_elim hf
      refine r_putI cx wo ad_141.1 ad_141.2.1 ad_141.2.2 fpX9_399 dX9_years_30 (fun H locs wo => ?_)
      rw [← e6] at wo
      refine lv_iconst (v := 0) cx.1 cx.2.1 dX9_years_33 (by decide) ?_
      refine lv_istore_n (lv' := [(3, .int 0), (0, .ref (B + 1)), (1, .int x1), (2, .int x2)]) cx.1 cx.2.1 dX9_years_34 rfl hl (by decide) rfl (fun ls hl => ?_)
      refine lv_iconst (v := 0) cx.1 cx.2.1 dX9_years_35 (by decide) ?_
      refine lv_istore (lv' := [(4, .int 0), (3, .int 0), (0, .ref (B + 1)), (1, .int x1), (2, .int x2)]) cx.1 cx.2.1 dX9_years_36 hl (by decide) rfl (fun ls hl => ?_)
      exact wX9_years_38 cx hr hlk _ _ _ _ _ _ hf _ _ _ wo (lv_sub hl [2, 4, 1, 0] rfl)
    · rw [if_neg c2] at hf
      refine lv_bipush (v := (-2)) cx.1 cx.2.1 dX9_years_11 (by decide) ?_
      have hq := Option.some.inj hf
      subst hq
      exact r_iret cx wo hr hlk dX9_years_13
set_option maxHeartbeats 1000000 in
set_option maxRecDepth 10000 in
theorem mX9_keep (l : Launch) {G : GG} {B : Nat} {x1 : Int32}  {M : Mem} {q : Int32 × Mem} (hf : fX9_keep x1 M = some q) : Met l yX9_keep (wsG yX9_keep cX9_keep 2 (some .boolean)) (rmN (3)) (PcW Ph G B 205 M [.ref (B + 1), .int x1]) (QcI Ph G B 205 q.1 q.2) 0 0 (fr B) := by
  refine mk_Met (own := RX9) rfl rfl (Nat.le_of_ble_eq_true rfl) ?_
  intro p e s m below meth c ls cx hr hlk wo hl
  have hl : lv_has ls 2 [(0, .ref (B + 1)), (1, .int x1)] := hl
  unfold fX9_keep at hf
  refine lv_iload_n cx.1 cx.2.1 dX9_keep_0 rfl (lv_at hl 1 rfl) ?_
  refine lv_if_lt (tgt := 9) cx.1 cx.2.1 dX9_keep_1 (by decide) (fun c1 => ?_) (fun c1 => ?_)
  · rw [if_pos c1] at hf
    refine lv_iconst (v := 0) cx.1 cx.2.1 dX9_keep_9 (by decide) ?_
    have hq := Option.some.inj hf
    subst hq
    exact r_zret cx wo hr hlk (Or.inl rfl) dX9_keep_10
  · rw [if_neg c1] at hf
    refine lv_iload_n cx.1 cx.2.1 dX9_keep_4 rfl (lv_at hl 1 rfl) ?_
    refine lv_iconst (v := 3) cx.1 cx.2.1 dX9_keep_5 (by decide) ?_
    refine lv_icmp_lt (tgt := 11) cx.1 cx.2.1 dX9_keep_6 (by decide) (fun c2 => ?_) (fun c2 => ?_)
    · rw [if_pos c2] at hf
      refine lv_aload_n cx.1 cx.2.1 dX9_keep_11 rfl (lv_at hl 0 rfl) ?_
      refine r_getR cx wo ad_1.1 ad_1.2.1 ad_1.2.2 fiX9_46 (fn_1_7 wo.2.2.2.1) (by decide) dX9_keep_12 ?_
      refine lv_iload_n cx.1 cx.2.1 dX9_keep_15 rfl (lv_at hl 1 rfl) ?_
      obtain ⟨g3, hf⟩ := gd_elim hf
      have hm4 : M.2.2 103 (ix x1) ∈ rivers := kept_riv wo.2.2.2.1 (inb_lt g3)
      refine r_aald cx wo ad_103.1 ad_103.2.1 ad_103.2.2 (by rw [ln_103]; exact g3) rfl (riv_ok _ hm4).1.1 dX9_keep_16 ?_
      refine lv_aload_n cx.1 cx.2.1 dX9_keep_17 rfl (lv_at hl 0 rfl) ?_
      refine r_getR cx wo ad_1.1 ad_1.2.1 ad_1.2.2 fiX9_26 (fn_1_2 wo.2.2.2.1) (by decide) dX9_keep_18 ?_
      obtain ⟨q5, e6, hf⟩ := bd_elim hf
      refine r_Vv (rest := []) cx wo (mX4_copyFrom l hm4 (by decide) e6) cvX9_190 rfl (riv_ok _ hm4).1.1 (riv_ok _ hm4).1.2.1 (riv_ok _ hm4).1.2.2 rfl rfl hl.1 rfl (Nat.le_of_ble_eq_true rfl) (hR_ok (by decide)) dX9_keep_21 (fun H locs wo => ?_)
      refine lv_aload_n cx.1 cx.2.1 dX9_keep_24 rfl (lv_at hl 0 rfl) ?_
      refine r_getR cx wo ad_1.1 ad_1.2.1 ad_1.2.2 fiX9_50 (fn_1_8 wo.2.2.2.1) (by decide) dX9_keep_25 ?_
      refine lv_iload_n cx.1 cx.2.1 dX9_keep_28 rfl (lv_at hl 1 rfl) ?_
      refine lv_iconst (v := 1) cx.1 cx.2.1 dX9_keep_29 (by decide) ?_
      obtain ⟨g7, hf⟩ := gd_elim hf
      obtain ⟨M8, e9, hf⟩ := lt_elim hf
      refine r_zast cx wo ad_104.1 ad_104.2.1 ad_104.2.2 (by rw [ln_104]; exact g7) dX9_keep_30 (fun H locs wo => ?_)
      rw [← e9] at wo
      refine lv_iconst (v := 1) cx.1 cx.2.1 dX9_keep_31 (by decide) ?_
      have hq := Option.some.inj hf
      subst hq
      exact r_zret cx wo hr hlk (Or.inr rfl) dX9_keep_32
    · rw [if_neg c2] at hf
      refine lv_iconst (v := 0) cx.1 cx.2.1 dX9_keep_9 (by decide) ?_
      have hq := Option.some.inj hf
      subst hq
      exact r_zret cx wo hr hlk (Or.inl rfl) dX9_keep_10
set_option maxHeartbeats 1000000 in
set_option maxRecDepth 10000 in
theorem mX9_again (l : Launch) {G : GG} {B : Nat} {x1 : Int32}  {M : Mem} {q : Int32 × Mem} (hf : fX9_again x1 M = some q) : Met l yX9_again (wsG yX9_again cX9_again 2 (some .boolean)) (rmN (3)) (PcW Ph G B 205 M [.ref (B + 1), .int x1]) (QcI Ph G B 205 q.1 q.2) 0 0 (fr B) := by
  refine mk_Met (own := RX9) rfl rfl (Nat.le_of_ble_eq_true rfl) ?_
  intro p e s m below meth c ls cx hr hlk wo hl
  have hl : lv_has ls 2 [(0, .ref (B + 1)), (1, .int x1)] := hl
  unfold fX9_again at hf
  refine lv_iload_n cx.1 cx.2.1 dX9_again_0 rfl (lv_at hl 1 rfl) ?_
  refine lv_if_lt (tgt := 18) cx.1 cx.2.1 dX9_again_1 (by decide) (fun c1 => ?_) (fun c1 => ?_)
  · rw [if_pos c1] at hf
    refine lv_iconst (v := 0) cx.1 cx.2.1 dX9_again_18 (by decide) ?_
    have hq := Option.some.inj hf
    subst hq
    exact r_zret cx wo hr hlk (Or.inl rfl) dX9_again_19
  · rw [if_neg c1] at hf
    refine lv_iload_n cx.1 cx.2.1 dX9_again_4 rfl (lv_at hl 1 rfl) ?_
    refine lv_iconst (v := 3) cx.1 cx.2.1 dX9_again_5 (by decide) ?_
    refine lv_icmp_ge (tgt := 18) cx.1 cx.2.1 dX9_again_6 (by decide) (fun c2 => ?_) (fun c2 => ?_)
    · rw [if_pos c2] at hf
      refine lv_iconst (v := 0) cx.1 cx.2.1 dX9_again_18 (by decide) ?_
      have hq := Option.some.inj hf
      subst hq
      exact r_zret cx wo hr hlk (Or.inl rfl) dX9_again_19
    · rw [if_neg c2] at hf
      refine lv_aload_n cx.1 cx.2.1 dX9_again_9 rfl (lv_at hl 0 rfl) ?_
      refine r_getR cx wo ad_1.1 ad_1.2.1 ad_1.2.2 fiX9_50 (fn_1_8 wo.2.2.2.1) (by decide) dX9_again_10 ?_
      refine lv_iload_n cx.1 cx.2.1 dX9_again_13 rfl (lv_at hl 1 rfl) ?_
      obtain ⟨g3, hf⟩ := gd_elim hf
      refine r_zald cx wo ad_104.1 ad_104.2.1 ad_104.2.2 (by rw [ln_104]; exact g3) dX9_again_14 ?_
      refine lv_if_ne (tgt := 20) cx.1 cx.2.1 dX9_again_15 (by decide) (fun c4 => ?_) (fun c4 => ?_)
      · rw [if_neg c4] at hf
        refine lv_aload_n cx.1 cx.2.1 dX9_again_20 rfl (lv_at hl 0 rfl) ?_
        refine r_getR cx wo ad_1.1 ad_1.2.1 ad_1.2.2 fiX9_26 (fn_1_2 wo.2.2.2.1) (by decide) dX9_again_21 ?_
        refine lv_aload_n cx.1 cx.2.1 dX9_again_24 rfl (lv_at hl 0 rfl) ?_
        refine r_getR cx wo ad_1.1 ad_1.2.1 ad_1.2.2 fiX9_46 (fn_1_7 wo.2.2.2.1) (by decide) dX9_again_25 ?_
        refine lv_iload_n cx.1 cx.2.1 dX9_again_28 rfl (lv_at hl 1 rfl) ?_
        obtain ⟨g5, hf⟩ := gd_elim hf
        have hm6 : M.2.2 103 (ix x1) ∈ rivers := kept_riv wo.2.2.2.1 (inb_lt g5)
        refine r_aald cx wo ad_103.1 ad_103.2.1 ad_103.2.2 (by rw [ln_103]; exact g5) rfl (riv_ok _ hm6).1.1 dX9_again_29 ?_
        obtain ⟨q7, e8, hf⟩ := bd_elim hf
        refine r_Vv (rest := []) cx wo (mX4_copyFrom l (by decide) hm6 e8) cvX9_190 rfl ad_6.1 ad_6.2.1 ad_6.2.2 rfl rfl hl.1 rfl (Nat.le_of_ble_eq_true rfl) (hR_ok (by decide)) dX9_again_30 (fun H locs wo => ?_)
        refine lv_aload_n cx.1 cx.2.1 dX9_again_33 rfl (lv_at hl 0 rfl) ?_
        refine r_getR cx wo ad_1.1 ad_1.2.1 ad_1.2.2 fiX9_42 (fn_1_6 wo.2.2.2.1) (by decide) dX9_again_34 ?_
        refine lv_iconst (v := 0) cx.1 cx.2.1 dX9_again_37 (by decide) ?_
        obtain ⟨M9, e10, hf⟩ := lt_elim hf
        refine r_putI cx wo ad_26.1 ad_26.2.1 ad_26.2.2 fpX9_127 dX9_again_38 (fun H locs wo => ?_)
        rw [← e10] at wo
        refine lv_iconst (v := 1) cx.1 cx.2.1 dX9_again_41 (by decide) ?_
        have hq := Option.some.inj hf
        subst hq
        exact r_zret cx wo hr hlk (Or.inr rfl) dX9_again_42
      · rw [if_pos c4] at hf
        refine lv_iconst (v := 0) cx.1 cx.2.1 dX9_again_18 (by decide) ?_
        have hq := Option.some.inj hf
        subst hq
        exact r_zret cx wo hr hlk (Or.inl rfl) dX9_again_19
set_option maxHeartbeats 1000000 in
set_option maxRecDepth 10000 in
theorem mX9_count (l : Launch) {G : GG} {B : Nat} {x1 : Int32}  {M : Mem} {q : Int32 × Mem} (hf : fX9_count x1 M = some q) : Met l yX9_count (wsG yX9_count cX9_count 2 (some .int)) (rmN (3)) (PcW Ph G B 205 M [.ref (B + 1), .int x1]) (QcI Ph G B 205 q.1 q.2) 0 0 (fr B) := by
  refine mk_Met (own := RX9) rfl rfl (Nat.le_of_ble_eq_true rfl) ?_
  intro p e s m below meth c ls cx hr hlk wo hl
  have hl : lv_has ls 2 [(0, .ref (B + 1)), (1, .int x1)] := hl
  unfold fX9_count at hf
  refine lv_iload_n cx.1 cx.2.1 dX9_count_0 rfl (lv_at hl 1 rfl) ?_
  by_cases c1 : x1 = 0
  · refine r_tin (tgt := 60) cx c1 dX9_count_1 (by decide) (by decide) rfl (by decide) ?_
    rw [if_pos c1] at hf
    refine lv_aload_n cx.1 cx.2.1 dX9_count_60 rfl (lv_at hl 0 rfl) ?_
    refine r_getR cx wo ad_1.1 ad_1.2.1 ad_1.2.2 fiX9_26 (fn_1_2 wo.2.2.2.1) (by decide) dX9_count_61 ?_
    refine r_getI cx wo ad_6.1 ad_6.2.1 ad_6.2.2 fiX9_282 dX9_count_64 ?_
    have hq := Option.some.inj hf
    subst hq
    exact r_iret cx wo hr hlk dX9_count_67
  · rw [if_neg c1] at hf
    by_cases c2 : x1 = 1
    · refine r_tin (tgt := 68) cx c2 dX9_count_1 (by decide) (by decide) rfl (by decide) ?_
      rw [if_pos c2] at hf
      refine lv_aload_n cx.1 cx.2.1 dX9_count_68 rfl (lv_at hl 0 rfl) ?_
      refine r_getR cx wo ad_1.1 ad_1.2.1 ad_1.2.2 fiX9_26 (fn_1_2 wo.2.2.2.1) (by decide) dX9_count_69 ?_
      refine r_getI cx wo ad_6.1 ad_6.2.1 ad_6.2.2 fiX9_347 dX9_count_72 ?_
      have hq := Option.some.inj hf
      subst hq
      exact r_iret cx wo hr hlk dX9_count_75
    · rw [if_neg c2] at hf
      by_cases c3 : x1 = 2
      · refine r_tin (tgt := 76) cx c3 dX9_count_1 (by decide) (by decide) rfl (by decide) ?_
        rw [if_pos c3] at hf
        refine lv_aload_n cx.1 cx.2.1 dX9_count_76 rfl (lv_at hl 0 rfl) ?_
        refine r_getR cx wo ad_1.1 ad_1.2.1 ad_1.2.2 fiX9_26 (fn_1_2 wo.2.2.2.1) (by decide) dX9_count_77 ?_
        refine r_getI cx wo ad_6.1 ad_6.2.1 ad_6.2.2 fiX9_273 dX9_count_80 ?_
        have hq := Option.some.inj hf
        subst hq
        exact r_iret cx wo hr hlk dX9_count_83
      · rw [if_neg c3] at hf
        by_cases c4 : x1 = 3
        · refine r_tin (tgt := 84) cx c4 dX9_count_1 (by decide) (by decide) rfl (by decide) ?_
          rw [if_pos c4] at hf
          refine lv_aload_n cx.1 cx.2.1 dX9_count_84 rfl (lv_at hl 0 rfl) ?_
          refine r_getR cx wo ad_1.1 ad_1.2.1 ad_1.2.2 fiX9_26 (fn_1_2 wo.2.2.2.1) (by decide) dX9_count_85 ?_
          refine r_getI cx wo ad_6.1 ad_6.2.1 ad_6.2.2 fiX9_224 dX9_count_88 ?_
          have hq := Option.some.inj hf
          subst hq
          exact r_iret cx wo hr hlk dX9_count_91
        · rw [if_neg c4] at hf
          by_cases c5 : x1 = 4
          · refine r_tin (tgt := 92) cx c5 dX9_count_1 (by decide) (by decide) rfl (by decide) ?_
            rw [if_pos c5] at hf
            refine lv_aload_n cx.1 cx.2.1 dX9_count_92 rfl (lv_at hl 0 rfl) ?_
            refine r_getR cx wo ad_1.1 ad_1.2.1 ad_1.2.2 fiX9_26 (fn_1_2 wo.2.2.2.1) (by decide) dX9_count_93 ?_
            refine r_getI cx wo ad_6.1 ad_6.2.1 ad_6.2.2 fiX9_408 dX9_count_96 ?_
            have hq := Option.some.inj hf
            subst hq
            exact r_iret cx wo hr hlk dX9_count_99
          · rw [if_neg c5] at hf
            by_cases c6 : x1 = 5
            · refine r_tin (tgt := 100) cx c6 dX9_count_1 (by decide) (by decide) rfl (by decide) ?_
              rw [if_pos c6] at hf
              refine lv_aload_n cx.1 cx.2.1 dX9_count_100 rfl (lv_at hl 0 rfl) ?_
              refine r_getR cx wo ad_1.1 ad_1.2.1 ad_1.2.2 fiX9_26 (fn_1_2 wo.2.2.2.1) (by decide) dX9_count_101 ?_
              obtain ⟨q7, e8, hf⟩ := bd_elim hf
              refine r_Vi (rest := []) cx wo (mX4_sumOfPaces l (by decide) e8) cvX9_175 rfl ad_6.1 ad_6.2.1 ad_6.2.2 rfl rfl hl.1 rfl (Nat.le_of_ble_eq_true rfl) (hR_ok (by decide)) dX9_count_104 (fun H locs wo => ?_)
              have hq := Option.some.inj hf
              subst hq
              exact r_iret cx wo hr hlk dX9_count_107
            · rw [if_neg c6] at hf
              by_cases c9 : x1 = 6
              · refine r_tin (tgt := 108) cx c9 dX9_count_1 (by decide) (by decide) rfl (by decide) ?_
                rw [if_pos c9] at hf
                refine lv_aload_n cx.1 cx.2.1 dX9_count_108 rfl (lv_at hl 0 rfl) ?_
                refine r_getR cx wo ad_1.1 ad_1.2.1 ad_1.2.2 fiX9_26 (fn_1_2 wo.2.2.2.1) (by decide) dX9_count_109 ?_
                obtain ⟨q10, e11, hf⟩ := bd_elim hf
                refine r_Vi (rest := []) cx wo (mX4_sumOfTired l (by decide) e11) cvX9_405 rfl ad_6.1 ad_6.2.1 ad_6.2.2 rfl rfl hl.1 rfl (Nat.le_of_ble_eq_true rfl) (hR_ok (by decide)) dX9_count_112 (fun H locs wo => ?_)
                have hq := Option.some.inj hf
                subst hq
                exact r_iret cx wo hr hlk dX9_count_115
              · rw [if_neg c9] at hf
                by_cases c12 : x1 = 7
                · refine r_tin (tgt := 116) cx c12 dX9_count_1 (by decide) (by decide) rfl (by decide) ?_
                  rw [if_pos c12] at hf
                  refine lv_aload_n cx.1 cx.2.1 dX9_count_116 rfl (lv_at hl 0 rfl) ?_
                  refine r_getR cx wo ad_1.1 ad_1.2.1 ad_1.2.2 fiX9_57 (fn_1_9 wo.2.2.2.1) (by decide) dX9_count_117 ?_
                  refine r_getI cx wo ad_105.1 ad_105.2.1 ad_105.2.2 fiX9_358 dX9_count_120 ?_
                  have hq := Option.some.inj hf
                  subst hq
                  exact r_iret cx wo hr hlk dX9_count_123
                · rw [if_neg c12] at hf
                  by_cases c13 : x1 = 8
                  · refine r_tin (tgt := 124) cx c13 dX9_count_1 (by decide) (by decide) rfl (by decide) ?_
                    rw [if_pos c13] at hf
                    refine lv_aload_n cx.1 cx.2.1 dX9_count_124 rfl (lv_at hl 0 rfl) ?_
                    refine r_getR cx wo ad_1.1 ad_1.2.1 ad_1.2.2 fiX9_42 (fn_1_6 wo.2.2.2.1) (by decide) dX9_count_125 ?_
                    refine r_getI cx wo ad_26.1 ad_26.2.1 ad_26.2.2 fiX9_127 dX9_count_128 ?_
                    have hq := Option.some.inj hf
                    subst hq
                    exact r_iret cx wo hr hlk dX9_count_131
                  · rw [if_neg c13] at hf
                    by_cases c14 : x1 = 9
                    · refine r_tin (tgt := 132) cx c14 dX9_count_1 (by decide) (by decide) rfl (by decide) ?_
                      rw [if_pos c14] at hf
                      refine lv_aload_n cx.1 cx.2.1 dX9_count_132 rfl (lv_at hl 0 rfl) ?_
                      refine r_getR cx wo ad_1.1 ad_1.2.1 ad_1.2.2 fiX9_19 (fn_1_1 wo.2.2.2.1) (by decide) dX9_count_133 ?_
                      refine r_getI cx wo ad_4.1 ad_4.2.1 ad_4.2.2 fiX9_235 dX9_count_136 ?_
                      have hq := Option.some.inj hf
                      subst hq
                      exact r_iret cx wo hr hlk dX9_count_139
                    · rw [if_neg c14] at hf
                      by_cases c15 : x1 = 10
                      · refine r_tin (tgt := 140) cx c15 dX9_count_1 (by decide) (by decide) rfl (by decide) ?_
                        rw [if_pos c15] at hf
                        refine lv_aload_n cx.1 cx.2.1 dX9_count_140 rfl (lv_at hl 0 rfl) ?_
                        refine r_getR cx wo ad_1.1 ad_1.2.1 ad_1.2.2 fiX9_10 (fn_1_0 wo.2.2.2.1) (by decide) dX9_count_141 ?_
                        refine r_getI cx wo ad_2.1 ad_2.2.1 ad_2.2.2 fiX9_107 dX9_count_144 ?_
                        have hq := Option.some.inj hf
                        subst hq
                        exact r_iret cx wo hr hlk dX9_count_147
                      · rw [if_neg c15] at hf
                        have nc1 := i_ne (n := 0) c1 (by decide)
                        have mc1 : ¬ (0 : Int) = x1.toInt := fun h => nc1 h.symm
                        have nc2 := i_ne (n := 1) c2 (by decide)
                        have mc2 : ¬ (1 : Int) = x1.toInt := fun h => nc2 h.symm
                        have nc3 := i_ne (n := 2) c3 (by decide)
                        have mc3 : ¬ (2 : Int) = x1.toInt := fun h => nc3 h.symm
                        have nc4 := i_ne (n := 3) c4 (by decide)
                        have mc4 : ¬ (3 : Int) = x1.toInt := fun h => nc4 h.symm
                        have nc5 := i_ne (n := 4) c5 (by decide)
                        have mc5 : ¬ (4 : Int) = x1.toInt := fun h => nc5 h.symm
                        have nc6 := i_ne (n := 5) c6 (by decide)
                        have mc6 : ¬ (5 : Int) = x1.toInt := fun h => nc6 h.symm
                        have nc9 := i_ne (n := 6) c9 (by decide)
                        have mc9 : ¬ (6 : Int) = x1.toInt := fun h => nc9 h.symm
                        have nc12 := i_ne (n := 7) c12 (by decide)
                        have mc12 : ¬ (7 : Int) = x1.toInt := fun h => nc12 h.symm
                        have nc13 := i_ne (n := 8) c13 (by decide)
                        have mc13 : ¬ (8 : Int) = x1.toInt := fun h => nc13 h.symm
                        have nc14 := i_ne (n := 9) c14 (by decide)
                        have mc14 : ¬ (9 : Int) = x1.toInt := fun h => nc14 h.symm
                        have nc15 := i_ne (n := 10) c15 (by decide)
                        have mc15 : ¬ (10 : Int) = x1.toInt := fun h => nc15 h.symm
                        refine lv_tableOut (tgt := 148) cx.1 cx.2.1 dX9_count_1 (by omega) (by decide) ?_
                        refine lv_bipush (v := (-100)) cx.1 cx.2.1 dX9_count_148 (by decide) ?_
                        have hq := Option.some.inj hf
                        subst hq
                        exact r_iret cx wo hr hlk dX9_count_150
end Walk
