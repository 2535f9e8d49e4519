/-! walks, by program -/
theorem dX4_copyFrom_0 : decode cX4_copyFrom 0 = .ok (.aload_n 0, 1) := by decide +kernel
theorem dX4_copyFrom_1 : decode cX4_copyFrom 1 = .ok (.aload_n 1, 1) := by decide +kernel
theorem dX4_copyFrom_2 : decode cX4_copyFrom 2 = .ok (.getfield 31, 3) := by decide +kernel
theorem dX4_copyFrom_5 : decode cX4_copyFrom 5 = .ok (.putfield 31, 3) := by decide +kernel
theorem dX4_copyFrom_8 : decode cX4_copyFrom 8 = .ok (.iconst 0, 1) := by decide +kernel
theorem dX4_copyFrom_9 : decode cX4_copyFrom 9 = .ok (.istore_n 2, 1) := by decide +kernel
theorem dX4_copyFrom_10 : decode cX4_copyFrom 10 = .ok (.iload_n 2, 1) := by decide +kernel
theorem dX4_copyFrom_11 : decode cX4_copyFrom 11 = .ok (.aload_n 0, 1) := by decide +kernel
theorem dX4_copyFrom_12 : decode cX4_copyFrom 12 = .ok (.getfield 31, 3) := by decide +kernel
theorem dX4_copyFrom_15 : decode cX4_copyFrom 15 = .ok (.if_icmp .ge 57, 3) := by decide +kernel
theorem dX4_copyFrom_18 : decode cX4_copyFrom 18 = .ok (.aload_n 0, 1) := by decide +kernel
theorem dX4_copyFrom_19 : decode cX4_copyFrom 19 = .ok (.getfield 9, 3) := by decide +kernel
theorem dX4_copyFrom_22 : decode cX4_copyFrom 22 = .ok (.iload_n 2, 1) := by decide +kernel
theorem dX4_copyFrom_23 : decode cX4_copyFrom 23 = .ok (.aload_n 1, 1) := by decide +kernel
theorem dX4_copyFrom_24 : decode cX4_copyFrom 24 = .ok (.getfield 9, 3) := by decide +kernel
theorem dX4_copyFrom_27 : decode cX4_copyFrom 27 = .ok (.iload_n 2, 1) := by decide +kernel
theorem dX4_copyFrom_28 : decode cX4_copyFrom 28 = .ok (.iaload, 1) := by decide +kernel
theorem dX4_copyFrom_29 : decode cX4_copyFrom 29 = .ok (.iastore, 1) := by decide +kernel
theorem dX4_copyFrom_30 : decode cX4_copyFrom 30 = .ok (.aload_n 0, 1) := by decide +kernel
theorem dX4_copyFrom_31 : decode cX4_copyFrom 31 = .ok (.getfield 15, 3) := by decide +kernel
theorem dX4_copyFrom_34 : decode cX4_copyFrom 34 = .ok (.iload_n 2, 1) := by decide +kernel
theorem dX4_copyFrom_35 : decode cX4_copyFrom 35 = .ok (.aload_n 1, 1) := by decide +kernel
theorem dX4_copyFrom_36 : decode cX4_copyFrom 36 = .ok (.getfield 15, 3) := by decide +kernel
theorem dX4_copyFrom_39 : decode cX4_copyFrom 39 = .ok (.iload_n 2, 1) := by decide +kernel
theorem dX4_copyFrom_40 : decode cX4_copyFrom 40 = .ok (.iaload, 1) := by decide +kernel
theorem dX4_copyFrom_41 : decode cX4_copyFrom 41 = .ok (.iastore, 1) := by decide +kernel
theorem dX4_copyFrom_42 : decode cX4_copyFrom 42 = .ok (.aload_n 0, 1) := by decide +kernel
theorem dX4_copyFrom_43 : decode cX4_copyFrom 43 = .ok (.getfield 18, 3) := by decide +kernel
theorem dX4_copyFrom_46 : decode cX4_copyFrom 46 = .ok (.iload_n 2, 1) := by decide +kernel
theorem dX4_copyFrom_47 : decode cX4_copyFrom 47 = .ok (.aload_n 1, 1) := by decide +kernel
theorem dX4_copyFrom_48 : decode cX4_copyFrom 48 = .ok (.getfield 18, 3) := by decide +kernel
theorem dX4_copyFrom_51 : decode cX4_copyFrom 51 = .ok (.iload_n 2, 1) := by decide +kernel
theorem dX4_copyFrom_52 : decode cX4_copyFrom 52 = .ok (.iaload, 1) := by decide +kernel
theorem dX4_copyFrom_53 : decode cX4_copyFrom 53 = .ok (.iastore, 1) := by decide +kernel
theorem dX4_copyFrom_54 : decode cX4_copyFrom 54 = .ok (.aload_n 0, 1) := by decide +kernel
theorem dX4_copyFrom_55 : decode cX4_copyFrom 55 = .ok (.getfield 21, 3) := by decide +kernel
theorem dX4_copyFrom_58 : decode cX4_copyFrom 58 = .ok (.iload_n 2, 1) := by decide +kernel
theorem dX4_copyFrom_59 : decode cX4_copyFrom 59 = .ok (.aload_n 1, 1) := by decide +kernel
theorem dX4_copyFrom_60 : decode cX4_copyFrom 60 = .ok (.getfield 21, 3) := by decide +kernel
theorem dX4_copyFrom_63 : decode cX4_copyFrom 63 = .ok (.iload_n 2, 1) := by decide +kernel
theorem dX4_copyFrom_64 : decode cX4_copyFrom 64 = .ok (.iaload, 1) := by decide +kernel
theorem dX4_copyFrom_65 : decode cX4_copyFrom 65 = .ok (.iastore, 1) := by decide +kernel
theorem dX4_copyFrom_66 : decode cX4_copyFrom 66 = .ok (.iinc 2 1, 3) := by decide +kernel
theorem dX4_copyFrom_69 : decode cX4_copyFrom 69 = .ok (.goto (-59), 3) := by decide +kernel
theorem dX4_copyFrom_72 : decode cX4_copyFrom 72 = .ok (.aload_n 0, 1) := by decide +kernel
theorem dX4_copyFrom_73 : decode cX4_copyFrom 73 = .ok (.aload_n 1, 1) := by decide +kernel
theorem dX4_copyFrom_74 : decode cX4_copyFrom 74 = .ok (.getfield 24, 3) := by decide +kernel
theorem dX4_copyFrom_77 : decode cX4_copyFrom 77 = .ok (.putfield 24, 3) := by decide +kernel
theorem dX4_copyFrom_80 : decode cX4_copyFrom 80 = .ok (.aload_n 0, 1) := by decide +kernel
theorem dX4_copyFrom_81 : decode cX4_copyFrom 81 = .ok (.aload_n 1, 1) := by decide +kernel
theorem dX4_copyFrom_82 : decode cX4_copyFrom 82 = .ok (.getfield 28, 3) := by decide +kernel
theorem dX4_copyFrom_85 : decode cX4_copyFrom 85 = .ok (.putfield 28, 3) := by decide +kernel
theorem dX4_copyFrom_88 : decode cX4_copyFrom 88 = .ok (.aload_n 0, 1) := by decide +kernel
theorem dX4_copyFrom_89 : decode cX4_copyFrom 89 = .ok (.aload_n 1, 1) := by decide +kernel
theorem dX4_copyFrom_90 : decode cX4_copyFrom 90 = .ok (.getfield 34, 3) := by decide +kernel
theorem dX4_copyFrom_93 : decode cX4_copyFrom 93 = .ok (.putfield 34, 3) := by decide +kernel
theorem dX4_copyFrom_96 : decode cX4_copyFrom 96 = .ok (.aload_n 0, 1) := by decide +kernel
theorem dX4_copyFrom_97 : decode cX4_copyFrom 97 = .ok (.aload_n 1, 1) := by decide +kernel
theorem dX4_copyFrom_98 : decode cX4_copyFrom 98 = .ok (.getfield 37, 3) := by decide +kernel
theorem dX4_copyFrom_101 : decode cX4_copyFrom 101 = .ok (.putfield 37, 3) := by decide +kernel
theorem dX4_copyFrom_104 : decode cX4_copyFrom 104 = .ok (.return_, 1) := by decide +kernel
theorem dX4_has_0 : decode cX4_has 0 = .ok (.iload_n 1, 1) := by decide +kernel
theorem dX4_has_1 : decode cX4_has 1 = .ok (.ifCond .lt 15, 3) := by decide +kernel
theorem dX4_has_4 : decode cX4_has 4 = .ok (.iload_n 1, 1) := by decide +kernel
theorem dX4_has_5 : decode cX4_has 5 = .ok (.aload_n 0, 1) := by decide +kernel
theorem dX4_has_6 : decode cX4_has 6 = .ok (.getfield 31, 3) := by decide +kernel
theorem dX4_has_9 : decode cX4_has 9 = .ok (.if_icmp .ge 7, 3) := by decide +kernel
theorem dX4_has_12 : decode cX4_has 12 = .ok (.iconst 1, 1) := by decide +kernel
theorem dX4_has_13 : decode cX4_has 13 = .ok (.goto 4, 3) := by decide +kernel
theorem dX4_has_16 : decode cX4_has 16 = .ok (.iconst 0, 1) := by decide +kernel
theorem dX4_has_17 : decode cX4_has 17 = .ok (.ireturn, 1) := by decide +kernel
theorem dX4_boatOn_0 : decode cX4_boatOn 0 = .ok (.iload_n 1, 1) := by decide +kernel
theorem dX4_boatOn_1 : decode cX4_boatOn 1 = .ok (.ifCond .lt 20, 3) := by decide +kernel
theorem dX4_boatOn_4 : decode cX4_boatOn 4 = .ok (.iload_n 1, 1) := by decide +kernel
theorem dX4_boatOn_5 : decode cX4_boatOn 5 = .ok (.aload_n 0, 1) := by decide +kernel
theorem dX4_boatOn_6 : decode cX4_boatOn 6 = .ok (.getfield 31, 3) := by decide +kernel
theorem dX4_boatOn_9 : decode cX4_boatOn 9 = .ok (.if_icmp .ge 12, 3) := by decide +kernel
theorem dX4_boatOn_12 : decode cX4_boatOn 12 = .ok (.aload_n 0, 1) := by decide +kernel
theorem dX4_boatOn_13 : decode cX4_boatOn 13 = .ok (.getfield 21, 3) := by decide +kernel
theorem dX4_boatOn_16 : decode cX4_boatOn 16 = .ok (.iload_n 1, 1) := by decide +kernel
theorem dX4_boatOn_17 : decode cX4_boatOn 17 = .ok (.iaload, 1) := by decide +kernel
theorem dX4_boatOn_18 : decode cX4_boatOn 18 = .ok (.goto 4, 3) := by decide +kernel
theorem dX4_boatOn_21 : decode cX4_boatOn 21 = .ok (.iconst (-1), 1) := by decide +kernel
theorem dX4_boatOn_22 : decode cX4_boatOn 22 = .ok (.ireturn, 1) := by decide +kernel
theorem dX4_addBoat_0 : decode cX4_addBoat 0 = .ok (.aload_n 0, 1) := by decide +kernel
theorem dX4_addBoat_1 : decode cX4_addBoat 1 = .ok (.getfield 31, 3) := by decide +kernel
theorem dX4_addBoat_4 : decode cX4_addBoat 4 = .ok (.bipush 6, 2) := by decide +kernel
theorem dX4_addBoat_6 : decode cX4_addBoat 6 = .ok (.if_icmp .ge 59, 3) := by decide +kernel
theorem dX4_addBoat_9 : decode cX4_addBoat 9 = .ok (.aload_n 0, 1) := by decide +kernel
theorem dX4_addBoat_10 : decode cX4_addBoat 10 = .ok (.getfield 9, 3) := by decide +kernel
theorem dX4_addBoat_13 : decode cX4_addBoat 13 = .ok (.aload_n 0, 1) := by decide +kernel
theorem dX4_addBoat_14 : decode cX4_addBoat 14 = .ok (.getfield 31, 3) := by decide +kernel
theorem dX4_addBoat_17 : decode cX4_addBoat 17 = .ok (.iload_n 1, 1) := by decide +kernel
theorem dX4_addBoat_18 : decode cX4_addBoat 18 = .ok (.iastore, 1) := by decide +kernel
theorem dX4_addBoat_19 : decode cX4_addBoat 19 = .ok (.aload_n 0, 1) := by decide +kernel
theorem dX4_addBoat_20 : decode cX4_addBoat 20 = .ok (.getfield 15, 3) := by decide +kernel
theorem dX4_addBoat_23 : decode cX4_addBoat 23 = .ok (.aload_n 0, 1) := by decide +kernel
theorem dX4_addBoat_24 : decode cX4_addBoat 24 = .ok (.getfield 31, 3) := by decide +kernel
theorem dX4_addBoat_27 : decode cX4_addBoat 27 = .ok (.iload_n 2, 1) := by decide +kernel
theorem dX4_addBoat_28 : decode cX4_addBoat 28 = .ok (.iastore, 1) := by decide +kernel
theorem dX4_addBoat_29 : decode cX4_addBoat 29 = .ok (.aload_n 0, 1) := by decide +kernel
theorem dX4_addBoat_30 : decode cX4_addBoat 30 = .ok (.getfield 18, 3) := by decide +kernel
theorem dX4_addBoat_33 : decode cX4_addBoat 33 = .ok (.aload_n 0, 1) := by decide +kernel
theorem dX4_addBoat_34 : decode cX4_addBoat 34 = .ok (.getfield 31, 3) := by decide +kernel
theorem dX4_addBoat_37 : decode cX4_addBoat 37 = .ok (.aload_n 0, 1) := by decide +kernel
theorem dX4_addBoat_38 : decode cX4_addBoat 38 = .ok (.getfield 31, 3) := by decide +kernel
theorem dX4_addBoat_41 : decode cX4_addBoat 41 = .ok (.iastore, 1) := by decide +kernel
theorem dX4_addBoat_42 : decode cX4_addBoat 42 = .ok (.aload_n 0, 1) := by decide +kernel
theorem dX4_addBoat_43 : decode cX4_addBoat 43 = .ok (.getfield 21, 3) := by decide +kernel
theorem dX4_addBoat_46 : decode cX4_addBoat 46 = .ok (.aload_n 0, 1) := by decide +kernel
theorem dX4_addBoat_47 : decode cX4_addBoat 47 = .ok (.getfield 31, 3) := by decide +kernel
theorem dX4_addBoat_50 : decode cX4_addBoat 50 = .ok (.aload_n 0, 1) := by decide +kernel
theorem dX4_addBoat_51 : decode cX4_addBoat 51 = .ok (.getfield 31, 3) := by decide +kernel
theorem dX4_addBoat_54 : decode cX4_addBoat 54 = .ok (.iastore, 1) := by decide +kernel
theorem dX4_addBoat_55 : decode cX4_addBoat 55 = .ok (.aload_n 0, 1) := by decide +kernel
theorem dX4_addBoat_56 : decode cX4_addBoat 56 = .ok (.dup, 1) := by decide +kernel
theorem dX4_addBoat_57 : decode cX4_addBoat 57 = .ok (.getfield 31, 3) := by decide +kernel
theorem dX4_addBoat_60 : decode cX4_addBoat 60 = .ok (.iconst 1, 1) := by decide +kernel
theorem dX4_addBoat_61 : decode cX4_addBoat 61 = .ok (.iadd, 1) := by decide +kernel
theorem dX4_addBoat_62 : decode cX4_addBoat 62 = .ok (.putfield 31, 3) := by decide +kernel
theorem dX4_addBoat_65 : decode cX4_addBoat 65 = .ok (.return_, 1) := by decide +kernel
theorem dX4_put_0 : decode cX4_put 0 = .ok (.aload_n 0, 1) := by decide +kernel
theorem dX4_put_1 : decode cX4_put 1 = .ok (.iload_n 1, 1) := by decide +kernel
theorem dX4_put_2 : decode cX4_put 2 = .ok (.invokevirtual 40, 3) := by decide +kernel
theorem dX4_put_5 : decode cX4_put 5 = .ok (.ifCond .eq 29, 3) := by decide +kernel
theorem dX4_put_8 : decode cX4_put 8 = .ok (.iload_n 2, 1) := by decide +kernel
theorem dX4_put_9 : decode cX4_put 9 = .ok (.ifCond .lt 25, 3) := by decide +kernel
theorem dX4_put_12 : decode cX4_put 12 = .ok (.iload_n 2, 1) := by decide +kernel
theorem dX4_put_13 : decode cX4_put 13 = .ok (.aload_n 0, 1) := by decide +kernel
theorem dX4_put_14 : decode cX4_put 14 = .ok (.getfield 31, 3) := by decide +kernel
theorem dX4_put_17 : decode cX4_put 17 = .ok (.if_icmp .ge 17, 3) := by decide +kernel
theorem dX4_put_20 : decode cX4_put 20 = .ok (.aload_n 0, 1) := by decide +kernel
theorem dX4_put_21 : decode cX4_put 21 = .ok (.getfield 18, 3) := by decide +kernel
theorem dX4_put_24 : decode cX4_put 24 = .ok (.iload_n 1, 1) := by decide +kernel
theorem dX4_put_25 : decode cX4_put 25 = .ok (.iload_n 2, 1) := by decide +kernel
theorem dX4_put_26 : decode cX4_put 26 = .ok (.iastore, 1) := by decide +kernel
theorem dX4_put_27 : decode cX4_put 27 = .ok (.aload_n 0, 1) := by decide +kernel
theorem dX4_put_28 : decode cX4_put 28 = .ok (.getfield 21, 3) := by decide +kernel
theorem dX4_put_31 : decode cX4_put 31 = .ok (.iload_n 2, 1) := by decide +kernel
theorem dX4_put_32 : decode cX4_put 32 = .ok (.iload_n 1, 1) := by decide +kernel
theorem dX4_put_33 : decode cX4_put 33 = .ok (.iastore, 1) := by decide +kernel
theorem dX4_put_34 : decode cX4_put 34 = .ok (.return_, 1) := by decide +kernel
theorem dX4_changePlaces_0 : decode cX4_changePlaces 0 = .ok (.aload_n 0, 1) := by decide +kernel
theorem dX4_changePlaces_1 : decode cX4_changePlaces 1 = .ok (.iload_n 1, 1) := by decide +kernel
theorem dX4_changePlaces_2 : decode cX4_changePlaces 2 = .ok (.invokevirtual 40, 3) := by decide +kernel
theorem dX4_changePlaces_5 : decode cX4_changePlaces 5 = .ok (.ifCond .eq 35, 3) := by decide +kernel
theorem dX4_changePlaces_8 : decode cX4_changePlaces 8 = .ok (.aload_n 0, 1) := by decide +kernel
theorem dX4_changePlaces_9 : decode cX4_changePlaces 9 = .ok (.iload_n 2, 1) := by decide +kernel
theorem dX4_changePlaces_10 : decode cX4_changePlaces 10 = .ok (.invokevirtual 40, 3) := by decide +kernel
theorem dX4_changePlaces_13 : decode cX4_changePlaces 13 = .ok (.ifCond .eq 27, 3) := by decide +kernel
theorem dX4_changePlaces_16 : decode cX4_changePlaces 16 = .ok (.aload_n 0, 1) := by decide +kernel
theorem dX4_changePlaces_17 : decode cX4_changePlaces 17 = .ok (.getfield 18, 3) := by decide +kernel
theorem dX4_changePlaces_20 : decode cX4_changePlaces 20 = .ok (.iload_n 1, 1) := by decide +kernel
theorem dX4_changePlaces_21 : decode cX4_changePlaces 21 = .ok (.iaload, 1) := by decide +kernel
theorem dX4_changePlaces_22 : decode cX4_changePlaces 22 = .ok (.istore_n 3, 1) := by decide +kernel
theorem dX4_changePlaces_23 : decode cX4_changePlaces 23 = .ok (.aload_n 0, 1) := by decide +kernel
theorem dX4_changePlaces_24 : decode cX4_changePlaces 24 = .ok (.iload_n 1, 1) := by decide +kernel
theorem dX4_changePlaces_25 : decode cX4_changePlaces 25 = .ok (.aload_n 0, 1) := by decide +kernel
theorem dX4_changePlaces_26 : decode cX4_changePlaces 26 = .ok (.getfield 18, 3) := by decide +kernel
theorem dX4_changePlaces_29 : decode cX4_changePlaces 29 = .ok (.iload_n 2, 1) := by decide +kernel
theorem dX4_changePlaces_30 : decode cX4_changePlaces 30 = .ok (.iaload, 1) := by decide +kernel
theorem dX4_changePlaces_31 : decode cX4_changePlaces 31 = .ok (.invokevirtual 44, 3) := by decide +kernel
theorem dX4_changePlaces_34 : decode cX4_changePlaces 34 = .ok (.aload_n 0, 1) := by decide +kernel
theorem dX4_changePlaces_35 : decode cX4_changePlaces 35 = .ok (.iload_n 2, 1) := by decide +kernel
theorem dX4_changePlaces_36 : decode cX4_changePlaces 36 = .ok (.iload_n 3, 1) := by decide +kernel
theorem dX4_changePlaces_37 : decode cX4_changePlaces 37 = .ok (.invokevirtual 44, 3) := by decide +kernel
theorem dX4_changePlaces_40 : decode cX4_changePlaces 40 = .ok (.return_, 1) := by decide +kernel
theorem dX4_standAs_0 : decode cX4_standAs 0 = .ok (.iconst 0, 1) := by decide +kernel
theorem dX4_standAs_1 : decode cX4_standAs 1 = .ok (.istore_n 2, 1) := by decide +kernel
theorem dX4_standAs_2 : decode cX4_standAs 2 = .ok (.iload_n 2, 1) := by decide +kernel
theorem dX4_standAs_3 : decode cX4_standAs 3 = .ok (.aload_n 0, 1) := by decide +kernel
theorem dX4_standAs_4 : decode cX4_standAs 4 = .ok (.getfield 31, 3) := by decide +kernel
theorem dX4_standAs_7 : decode cX4_standAs 7 = .ok (.if_icmp .ge 23, 3) := by decide +kernel
theorem dX4_standAs_10 : decode cX4_standAs 10 = .ok (.iload_n 2, 1) := by decide +kernel
theorem dX4_standAs_11 : decode cX4_standAs 11 = .ok (.aload_n 1, 1) := by decide +kernel
theorem dX4_standAs_12 : decode cX4_standAs 12 = .ok (.arraylength, 1) := by decide +kernel
theorem dX4_standAs_13 : decode cX4_standAs 13 = .ok (.if_icmp .ge 17, 3) := by decide +kernel
theorem dX4_standAs_16 : decode cX4_standAs 16 = .ok (.aload_n 0, 1) := by decide +kernel
theorem dX4_standAs_17 : decode cX4_standAs 17 = .ok (.aload_n 1, 1) := by decide +kernel
theorem dX4_standAs_18 : decode cX4_standAs 18 = .ok (.iload_n 2, 1) := by decide +kernel
theorem dX4_standAs_19 : decode cX4_standAs 19 = .ok (.iaload, 1) := by decide +kernel
theorem dX4_standAs_20 : decode cX4_standAs 20 = .ok (.iload_n 2, 1) := by decide +kernel
theorem dX4_standAs_21 : decode cX4_standAs 21 = .ok (.invokevirtual 44, 3) := by decide +kernel
theorem dX4_standAs_24 : decode cX4_standAs 24 = .ok (.iinc 2 1, 3) := by decide +kernel
theorem dX4_standAs_27 : decode cX4_standAs 27 = .ok (.goto (-25), 3) := by decide +kernel
theorem dX4_standAs_30 : decode cX4_standAs 30 = .ok (.return_, 1) := by decide +kernel
theorem dX4_orderNumber_0 : decode cX4_orderNumber 0 = .ok (.iconst 0, 1) := by decide +kernel
theorem dX4_orderNumber_1 : decode cX4_orderNumber 1 = .ok (.istore_n 1, 1) := by decide +kernel
theorem dX4_orderNumber_2 : decode cX4_orderNumber 2 = .ok (.iconst 0, 1) := by decide +kernel
theorem dX4_orderNumber_3 : decode cX4_orderNumber 3 = .ok (.istore_n 2, 1) := by decide +kernel
theorem dX4_orderNumber_4 : decode cX4_orderNumber 4 = .ok (.iload_n 2, 1) := by decide +kernel
theorem dX4_orderNumber_5 : decode cX4_orderNumber 5 = .ok (.aload_n 0, 1) := by decide +kernel
theorem dX4_orderNumber_6 : decode cX4_orderNumber 6 = .ok (.getfield 31, 3) := by decide +kernel
theorem dX4_orderNumber_9 : decode cX4_orderNumber 9 = .ok (.if_icmp .ge 21, 3) := by decide +kernel
theorem dX4_orderNumber_12 : decode cX4_orderNumber 12 = .ok (.iload_n 1, 1) := by decide +kernel
theorem dX4_orderNumber_13 : decode cX4_orderNumber 13 = .ok (.bipush 6, 2) := by decide +kernel
theorem dX4_orderNumber_15 : decode cX4_orderNumber 15 = .ok (.imul, 1) := by decide +kernel
theorem dX4_orderNumber_16 : decode cX4_orderNumber 16 = .ok (.aload_n 0, 1) := by decide +kernel
theorem dX4_orderNumber_17 : decode cX4_orderNumber 17 = .ok (.getfield 21, 3) := by decide +kernel
theorem dX4_orderNumber_20 : decode cX4_orderNumber 20 = .ok (.iload_n 2, 1) := by decide +kernel
theorem dX4_orderNumber_21 : decode cX4_orderNumber 21 = .ok (.iaload, 1) := by decide +kernel
theorem dX4_orderNumber_22 : decode cX4_orderNumber 22 = .ok (.iadd, 1) := by decide +kernel
theorem dX4_orderNumber_23 : decode cX4_orderNumber 23 = .ok (.istore_n 1, 1) := by decide +kernel
theorem dX4_orderNumber_24 : decode cX4_orderNumber 24 = .ok (.iinc 2 1, 3) := by decide +kernel
theorem dX4_orderNumber_27 : decode cX4_orderNumber 27 = .ok (.goto (-23), 3) := by decide +kernel
theorem dX4_orderNumber_30 : decode cX4_orderNumber 30 = .ok (.iload_n 1, 1) := by decide +kernel
theorem dX4_orderNumber_31 : decode cX4_orderNumber 31 = .ok (.ireturn, 1) := by decide +kernel
theorem dX4_moveToFoot_0 : decode cX4_moveToFoot 0 = .ok (.aload_n 0, 1) := by decide +kernel
theorem dX4_moveToFoot_1 : decode cX4_moveToFoot 1 = .ok (.iload_n 1, 1) := by decide +kernel
theorem dX4_moveToFoot_2 : decode cX4_moveToFoot 2 = .ok (.invokevirtual 40, 3) := by decide +kernel
theorem dX4_moveToFoot_5 : decode cX4_moveToFoot 5 = .ok (.ifCond .ne 5, 3) := by decide +kernel
theorem dX4_moveToFoot_8 : decode cX4_moveToFoot 8 = .ok (.iconst (-1), 1) := by decide +kernel
theorem dX4_moveToFoot_9 : decode cX4_moveToFoot 9 = .ok (.ireturn, 1) := by decide +kernel
theorem dX4_moveToFoot_10 : decode cX4_moveToFoot 10 = .ok (.aload_n 0, 1) := by decide +kernel
theorem dX4_moveToFoot_11 : decode cX4_moveToFoot 11 = .ok (.getfield 18, 3) := by decide +kernel
theorem dX4_moveToFoot_14 : decode cX4_moveToFoot 14 = .ok (.iload_n 1, 1) := by decide +kernel
theorem dX4_moveToFoot_15 : decode cX4_moveToFoot 15 = .ok (.iaload, 1) := by decide +kernel
theorem dX4_moveToFoot_16 : decode cX4_moveToFoot 16 = .ok (.istore_n 2, 1) := by decide +kernel
theorem dX4_moveToFoot_17 : decode cX4_moveToFoot 17 = .ok (.iload_n 2, 1) := by decide +kernel
theorem dX4_moveToFoot_18 : decode cX4_moveToFoot 18 = .ok (.aload_n 0, 1) := by decide +kernel
theorem dX4_moveToFoot_19 : decode cX4_moveToFoot 19 = .ok (.getfield 31, 3) := by decide +kernel
theorem dX4_moveToFoot_22 : decode cX4_moveToFoot 22 = .ok (.iconst 1, 1) := by decide +kernel
theorem dX4_moveToFoot_23 : decode cX4_moveToFoot 23 = .ok (.isub, 1) := by decide +kernel
theorem dX4_moveToFoot_24 : decode cX4_moveToFoot 24 = .ok (.if_icmp .ne 6, 3) := by decide +kernel
theorem dX4_moveToFoot_27 : decode cX4_moveToFoot 27 = .ok (.bipush (-2), 2) := by decide +kernel
theorem dX4_moveToFoot_29 : decode cX4_moveToFoot 29 = .ok (.ireturn, 1) := by decide +kernel
theorem dX4_moveToFoot_30 : decode cX4_moveToFoot 30 = .ok (.iload_n 2, 1) := by decide +kernel
theorem dX4_moveToFoot_31 : decode cX4_moveToFoot 31 = .ok (.istore_n 3, 1) := by decide +kernel
theorem dX4_moveToFoot_32 : decode cX4_moveToFoot 32 = .ok (.iload_n 3, 1) := by decide +kernel
theorem dX4_moveToFoot_33 : decode cX4_moveToFoot 33 = .ok (.aload_n 0, 1) := by decide +kernel
theorem dX4_moveToFoot_34 : decode cX4_moveToFoot 34 = .ok (.getfield 31, 3) := by decide +kernel
theorem dX4_moveToFoot_37 : decode cX4_moveToFoot 37 = .ok (.iconst 1, 1) := by decide +kernel
theorem dX4_moveToFoot_38 : decode cX4_moveToFoot 38 = .ok (.isub, 1) := by decide +kernel
theorem dX4_moveToFoot_39 : decode cX4_moveToFoot 39 = .ok (.if_icmp .ge 22, 3) := by decide +kernel
theorem dX4_moveToFoot_42 : decode cX4_moveToFoot 42 = .ok (.aload_n 0, 1) := by decide +kernel
theorem dX4_moveToFoot_43 : decode cX4_moveToFoot 43 = .ok (.aload_n 0, 1) := by decide +kernel
theorem dX4_moveToFoot_44 : decode cX4_moveToFoot 44 = .ok (.getfield 21, 3) := by decide +kernel
theorem dX4_moveToFoot_47 : decode cX4_moveToFoot 47 = .ok (.iload_n 3, 1) := by decide +kernel
theorem dX4_moveToFoot_48 : decode cX4_moveToFoot 48 = .ok (.iconst 1, 1) := by decide +kernel
theorem dX4_moveToFoot_49 : decode cX4_moveToFoot 49 = .ok (.iadd, 1) := by decide +kernel
theorem dX4_moveToFoot_50 : decode cX4_moveToFoot 50 = .ok (.iaload, 1) := by decide +kernel
theorem dX4_moveToFoot_51 : decode cX4_moveToFoot 51 = .ok (.iload_n 3, 1) := by decide +kernel
theorem dX4_moveToFoot_52 : decode cX4_moveToFoot 52 = .ok (.invokevirtual 44, 3) := by decide +kernel
theorem dX4_moveToFoot_55 : decode cX4_moveToFoot 55 = .ok (.iinc 3 1, 3) := by decide +kernel
theorem dX4_moveToFoot_58 : decode cX4_moveToFoot 58 = .ok (.goto (-26), 3) := by decide +kernel
theorem dX4_moveToFoot_61 : decode cX4_moveToFoot 61 = .ok (.aload_n 0, 1) := by decide +kernel
theorem dX4_moveToFoot_62 : decode cX4_moveToFoot 62 = .ok (.iload_n 1, 1) := by decide +kernel
theorem dX4_moveToFoot_63 : decode cX4_moveToFoot 63 = .ok (.aload_n 0, 1) := by decide +kernel
theorem dX4_moveToFoot_64 : decode cX4_moveToFoot 64 = .ok (.getfield 31, 3) := by decide +kernel
theorem dX4_moveToFoot_67 : decode cX4_moveToFoot 67 = .ok (.iconst 1, 1) := by decide +kernel
theorem dX4_moveToFoot_68 : decode cX4_moveToFoot 68 = .ok (.isub, 1) := by decide +kernel
theorem dX4_moveToFoot_69 : decode cX4_moveToFoot 69 = .ok (.invokevirtual 44, 3) := by decide +kernel
theorem dX4_moveToFoot_72 : decode cX4_moveToFoot 72 = .ok (.iload_n 2, 1) := by decide +kernel
theorem dX4_moveToFoot_73 : decode cX4_moveToFoot 73 = .ok (.ireturn, 1) := by decide +kernel
theorem dX4_restBoat_0 : decode cX4_restBoat 0 = .ok (.aload_n 0, 1) := by decide +kernel
theorem dX4_restBoat_1 : decode cX4_restBoat 1 = .ok (.iload_n 1, 1) := by decide +kernel
theorem dX4_restBoat_2 : decode cX4_restBoat 2 = .ok (.invokevirtual 40, 3) := by decide +kernel
theorem dX4_restBoat_5 : decode cX4_restBoat 5 = .ok (.ifCond .ne 5, 3) := by decide +kernel
theorem dX4_restBoat_8 : decode cX4_restBoat 8 = .ok (.iconst (-1), 1) := by decide +kernel
theorem dX4_restBoat_9 : decode cX4_restBoat 9 = .ok (.ireturn, 1) := by decide +kernel
theorem dX4_restBoat_10 : decode cX4_restBoat 10 = .ok (.aload_n 0, 1) := by decide +kernel
theorem dX4_restBoat_11 : decode cX4_restBoat 11 = .ok (.getfield 15, 3) := by decide +kernel
theorem dX4_restBoat_14 : decode cX4_restBoat 14 = .ok (.iload_n 1, 1) := by decide +kernel
theorem dX4_restBoat_15 : decode cX4_restBoat 15 = .ok (.iaload, 1) := by decide +kernel
theorem dX4_restBoat_16 : decode cX4_restBoat 16 = .ok (.istore_n 2, 1) := by decide +kernel
theorem dX4_restBoat_17 : decode cX4_restBoat 17 = .ok (.aload_n 0, 1) := by decide +kernel
theorem dX4_restBoat_18 : decode cX4_restBoat 18 = .ok (.getfield 15, 3) := by decide +kernel
theorem dX4_restBoat_21 : decode cX4_restBoat 21 = .ok (.iload_n 1, 1) := by decide +kernel
theorem dX4_restBoat_22 : decode cX4_restBoat 22 = .ok (.iconst 0, 1) := by decide +kernel
theorem dX4_restBoat_23 : decode cX4_restBoat 23 = .ok (.iastore, 1) := by decide +kernel
theorem dX4_restBoat_24 : decode cX4_restBoat 24 = .ok (.iload_n 2, 1) := by decide +kernel
theorem dX4_restBoat_25 : decode cX4_restBoat 25 = .ok (.ifCond .ne 8, 3) := by decide +kernel
theorem dX4_restBoat_28 : decode cX4_restBoat 28 = .ok (.bipush (-2), 2) := by decide +kernel
theorem dX4_restBoat_30 : decode cX4_restBoat 30 = .ok (.goto 4, 3) := by decide +kernel
theorem dX4_restBoat_33 : decode cX4_restBoat 33 = .ok (.iload_n 2, 1) := by decide +kernel
theorem dX4_restBoat_34 : decode cX4_restBoat 34 = .ok (.ireturn, 1) := by decide +kernel
theorem dX4_setPace_0 : decode cX4_setPace 0 = .ok (.aload_n 0, 1) := by decide +kernel
theorem dX4_setPace_1 : decode cX4_setPace 1 = .ok (.iload_n 1, 1) := by decide +kernel
theorem dX4_setPace_2 : decode cX4_setPace 2 = .ok (.invokevirtual 40, 3) := by decide +kernel
theorem dX4_setPace_5 : decode cX4_setPace 5 = .ok (.ifCond .eq 14, 3) := by decide +kernel
theorem dX4_setPace_8 : decode cX4_setPace 8 = .ok (.iload_n 2, 1) := by decide +kernel
theorem dX4_setPace_9 : decode cX4_setPace 9 = .ok (.iconst 1, 1) := by decide +kernel
theorem dX4_setPace_10 : decode cX4_setPace 10 = .ok (.if_icmp .lt 9, 3) := by decide +kernel
theorem dX4_setPace_13 : decode cX4_setPace 13 = .ok (.iload_n 2, 1) := by decide +kernel
theorem dX4_setPace_14 : decode cX4_setPace 14 = .ok (.bipush 9, 2) := by decide +kernel
theorem dX4_setPace_16 : decode cX4_setPace 16 = .ok (.if_icmp .le 5, 3) := by decide +kernel
theorem dX4_setPace_19 : decode cX4_setPace 19 = .ok (.iconst (-1), 1) := by decide +kernel
theorem dX4_setPace_20 : decode cX4_setPace 20 = .ok (.ireturn, 1) := by decide +kernel
theorem dX4_setPace_21 : decode cX4_setPace 21 = .ok (.aload_n 0, 1) := by decide +kernel
theorem dX4_setPace_22 : decode cX4_setPace 22 = .ok (.getfield 9, 3) := by decide +kernel
theorem dX4_setPace_25 : decode cX4_setPace 25 = .ok (.iload_n 1, 1) := by decide +kernel
theorem dX4_setPace_26 : decode cX4_setPace 26 = .ok (.iaload, 1) := by decide +kernel
theorem dX4_setPace_27 : decode cX4_setPace 27 = .ok (.istore_n 3, 1) := by decide +kernel
theorem dX4_setPace_28 : decode cX4_setPace 28 = .ok (.aload_n 0, 1) := by decide +kernel
theorem dX4_setPace_29 : decode cX4_setPace 29 = .ok (.getfield 9, 3) := by decide +kernel
theorem dX4_setPace_32 : decode cX4_setPace 32 = .ok (.iload_n 1, 1) := by decide +kernel
theorem dX4_setPace_33 : decode cX4_setPace 33 = .ok (.iload_n 2, 1) := by decide +kernel
theorem dX4_setPace_34 : decode cX4_setPace 34 = .ok (.iastore, 1) := by decide +kernel
theorem dX4_setPace_35 : decode cX4_setPace 35 = .ok (.iload_n 3, 1) := by decide +kernel
theorem dX4_setPace_36 : decode cX4_setPace 36 = .ok (.iload_n 2, 1) := by decide +kernel
theorem dX4_setPace_37 : decode cX4_setPace 37 = .ok (.if_icmp .ne 8, 3) := by decide +kernel
theorem dX4_setPace_40 : decode cX4_setPace 40 = .ok (.bipush (-2), 2) := by decide +kernel
theorem dX4_setPace_42 : decode cX4_setPace 42 = .ok (.goto 4, 3) := by decide +kernel
theorem dX4_setPace_45 : decode cX4_setPace 45 = .ok (.iload_n 3, 1) := by decide +kernel
theorem dX4_setPace_46 : decode cX4_setPace 46 = .ok (.ireturn, 1) := by decide +kernel
theorem dX4_setGap_0 : decode cX4_setGap 0 = .ok (.iload_n 1, 1) := by decide +kernel
theorem dX4_setGap_1 : decode cX4_setGap 1 = .ok (.iconst 1, 1) := by decide +kernel
theorem dX4_setGap_2 : decode cX4_setGap 2 = .ok (.if_icmp .lt 9, 3) := by decide +kernel
theorem dX4_setGap_5 : decode cX4_setGap 5 = .ok (.iload_n 1, 1) := by decide +kernel
theorem dX4_setGap_6 : decode cX4_setGap 6 = .ok (.bipush 30, 2) := by decide +kernel
theorem dX4_setGap_8 : decode cX4_setGap 8 = .ok (.if_icmp .le 5, 3) := by decide +kernel
theorem dX4_setGap_11 : decode cX4_setGap 11 = .ok (.iconst (-1), 1) := by decide +kernel
theorem dX4_setGap_12 : decode cX4_setGap 12 = .ok (.ireturn, 1) := by decide +kernel
theorem dX4_setGap_13 : decode cX4_setGap 13 = .ok (.aload_n 0, 1) := by decide +kernel
theorem dX4_setGap_14 : decode cX4_setGap 14 = .ok (.getfield 24, 3) := by decide +kernel
theorem dX4_setGap_17 : decode cX4_setGap 17 = .ok (.istore_n 2, 1) := by decide +kernel
theorem dX4_setGap_18 : decode cX4_setGap 18 = .ok (.aload_n 0, 1) := by decide +kernel
theorem dX4_setGap_19 : decode cX4_setGap 19 = .ok (.iload_n 1, 1) := by decide +kernel
theorem dX4_setGap_20 : decode cX4_setGap 20 = .ok (.putfield 24, 3) := by decide +kernel
theorem dX4_setGap_23 : decode cX4_setGap 23 = .ok (.iload_n 2, 1) := by decide +kernel
theorem dX4_setGap_24 : decode cX4_setGap 24 = .ok (.iload_n 1, 1) := by decide +kernel
theorem dX4_setGap_25 : decode cX4_setGap 25 = .ok (.if_icmp .ne 8, 3) := by decide +kernel
theorem dX4_setGap_28 : decode cX4_setGap 28 = .ok (.bipush (-2), 2) := by decide +kernel
theorem dX4_setGap_30 : decode cX4_setGap 30 = .ok (.goto 4, 3) := by decide +kernel
theorem dX4_setGap_33 : decode cX4_setGap 33 = .ok (.iload_n 2, 1) := by decide +kernel
theorem dX4_setGap_34 : decode cX4_setGap 34 = .ok (.ireturn, 1) := by decide +kernel
theorem dX4_setStrokes_0 : decode cX4_setStrokes 0 = .ok (.iload_n 1, 1) := by decide +kernel
theorem dX4_setStrokes_1 : decode cX4_setStrokes 1 = .ok (.iconst 1, 1) := by decide +kernel
theorem dX4_setStrokes_2 : decode cX4_setStrokes 2 = .ok (.if_icmp .lt 9, 3) := by decide +kernel
theorem dX4_setStrokes_5 : decode cX4_setStrokes 5 = .ok (.iload_n 1, 1) := by decide +kernel
theorem dX4_setStrokes_6 : decode cX4_setStrokes 6 = .ok (.bipush 40, 2) := by decide +kernel
theorem dX4_setStrokes_8 : decode cX4_setStrokes 8 = .ok (.if_icmp .le 5, 3) := by decide +kernel
theorem dX4_setStrokes_11 : decode cX4_setStrokes 11 = .ok (.iconst (-1), 1) := by decide +kernel
theorem dX4_setStrokes_12 : decode cX4_setStrokes 12 = .ok (.ireturn, 1) := by decide +kernel
theorem dX4_setStrokes_13 : decode cX4_setStrokes 13 = .ok (.aload_n 0, 1) := by decide +kernel
theorem dX4_setStrokes_14 : decode cX4_setStrokes 14 = .ok (.getfield 28, 3) := by decide +kernel
theorem dX4_setStrokes_17 : decode cX4_setStrokes 17 = .ok (.istore_n 2, 1) := by decide +kernel
theorem dX4_setStrokes_18 : decode cX4_setStrokes 18 = .ok (.aload_n 0, 1) := by decide +kernel
theorem dX4_setStrokes_19 : decode cX4_setStrokes 19 = .ok (.iload_n 1, 1) := by decide +kernel
theorem dX4_setStrokes_20 : decode cX4_setStrokes 20 = .ok (.putfield 28, 3) := by decide +kernel
theorem dX4_setStrokes_23 : decode cX4_setStrokes 23 = .ok (.iload_n 2, 1) := by decide +kernel
theorem dX4_setStrokes_24 : decode cX4_setStrokes 24 = .ok (.iload_n 1, 1) := by decide +kernel
theorem dX4_setStrokes_25 : decode cX4_setStrokes 25 = .ok (.if_icmp .ne 8, 3) := by decide +kernel
theorem dX4_setStrokes_28 : decode cX4_setStrokes 28 = .ok (.bipush (-2), 2) := by decide +kernel
theorem dX4_setStrokes_30 : decode cX4_setStrokes 30 = .ok (.goto 4, 3) := by decide +kernel
theorem dX4_setStrokes_33 : decode cX4_setStrokes 33 = .ok (.iload_n 2, 1) := by decide +kernel
theorem dX4_setStrokes_34 : decode cX4_setStrokes 34 = .ok (.ireturn, 1) := by decide +kernel
theorem dX4_takeSheet_0 : decode cX4_takeSheet 0 = .ok (.iconst 0, 1) := by decide +kernel
theorem dX4_takeSheet_1 : decode cX4_takeSheet 1 = .ok (.istore 5, 2) := by decide +kernel
theorem dX4_takeSheet_3 : decode cX4_takeSheet 3 = .ok (.iload 5, 2) := by decide +kernel
theorem dX4_takeSheet_5 : decode cX4_takeSheet 5 = .ok (.aload_n 0, 1) := by decide +kernel
theorem dX4_takeSheet_6 : decode cX4_takeSheet 6 = .ok (.getfield 31, 3) := by decide +kernel
theorem dX4_takeSheet_9 : decode cX4_takeSheet 9 = .ok (.if_icmp .ge 71, 3) := by decide +kernel
theorem dX4_takeSheet_12 : decode cX4_takeSheet 12 = .ok (.iload_n 3, 1) := by decide +kernel
theorem dX4_takeSheet_13 : decode cX4_takeSheet 13 = .ok (.iload 5, 2) := by decide +kernel
theorem dX4_takeSheet_15 : decode cX4_takeSheet 15 = .ok (.iload 4, 2) := by decide +kernel
theorem dX4_takeSheet_17 : decode cX4_takeSheet 17 = .ok (.imul, 1) := by decide +kernel
theorem dX4_takeSheet_18 : decode cX4_takeSheet 18 = .ok (.iadd, 1) := by decide +kernel
theorem dX4_takeSheet_19 : decode cX4_takeSheet 19 = .ok (.istore 6, 2) := by decide +kernel
theorem dX4_takeSheet_21 : decode cX4_takeSheet 21 = .ok (.iload_n 1, 1) := by decide +kernel
theorem dX4_takeSheet_22 : decode cX4_takeSheet 22 = .ok (.ifCond .ne 9, 3) := by decide +kernel
theorem dX4_takeSheet_25 : decode cX4_takeSheet 25 = .ok (.iload 6, 2) := by decide +kernel
theorem dX4_takeSheet_27 : decode cX4_takeSheet 27 = .ok (.i2b, 1) := by decide +kernel
theorem dX4_takeSheet_28 : decode cX4_takeSheet 28 = .ok (.goto 16, 3) := by decide +kernel
theorem dX4_takeSheet_31 : decode cX4_takeSheet 31 = .ok (.iload_n 1, 1) := by decide +kernel
theorem dX4_takeSheet_32 : decode cX4_takeSheet 32 = .ok (.iconst 1, 1) := by decide +kernel
theorem dX4_takeSheet_33 : decode cX4_takeSheet 33 = .ok (.if_icmp .ne 9, 3) := by decide +kernel
theorem dX4_takeSheet_36 : decode cX4_takeSheet 36 = .ok (.iload 6, 2) := by decide +kernel
theorem dX4_takeSheet_38 : decode cX4_takeSheet 38 = .ok (.i2s, 1) := by decide +kernel
theorem dX4_takeSheet_39 : decode cX4_takeSheet 39 = .ok (.goto 5, 3) := by decide +kernel
theorem dX4_takeSheet_42 : decode cX4_takeSheet 42 = .ok (.iload 6, 2) := by decide +kernel
theorem dX4_takeSheet_44 : decode cX4_takeSheet 44 = .ok (.istore 7, 2) := by decide +kernel
theorem dX4_takeSheet_46 : decode cX4_takeSheet 46 = .ok (.aload_n 0, 1) := by decide +kernel
theorem dX4_takeSheet_47 : decode cX4_takeSheet 47 = .ok (.getfield 9, 3) := by decide +kernel
theorem dX4_takeSheet_50 : decode cX4_takeSheet 50 = .ok (.iload 5, 2) := by decide +kernel
theorem dX4_takeSheet_52 : decode cX4_takeSheet 52 = .ok (.iload 5, 2) := by decide +kernel
theorem dX4_takeSheet_54 : decode cX4_takeSheet 54 = .ok (.iload_n 2, 1) := by decide +kernel
theorem dX4_takeSheet_55 : decode cX4_takeSheet 55 = .ok (.if_icmp .ge 17, 3) := by decide +kernel
theorem dX4_takeSheet_58 : decode cX4_takeSheet 58 = .ok (.iconst 1, 1) := by decide +kernel
theorem dX4_takeSheet_59 : decode cX4_takeSheet 59 = .ok (.bipush 9, 2) := by decide +kernel
theorem dX4_takeSheet_61 : decode cX4_takeSheet 61 = .ok (.iload 7, 2) := by decide +kernel
theorem dX4_takeSheet_63 : decode cX4_takeSheet 63 = .ok (.invokestatic 48, 3) := by decide +kernel
theorem dX4_takeSheet_66 : decode cX4_takeSheet 66 = .ok (.invokestatic 54, 3) := by decide +kernel
theorem dX4_takeSheet_69 : decode cX4_takeSheet 69 = .ok (.goto 4, 3) := by decide +kernel
theorem dX4_takeSheet_72 : decode cX4_takeSheet 72 = .ok (.iconst 1, 1) := by decide +kernel
theorem dX4_takeSheet_73 : decode cX4_takeSheet 73 = .ok (.iastore, 1) := by decide +kernel
theorem dX4_takeSheet_74 : decode cX4_takeSheet 74 = .ok (.iinc 5 1, 3) := by decide +kernel
theorem dX4_takeSheet_77 : decode cX4_takeSheet 77 = .ok (.goto (-74), 3) := by decide +kernel
theorem dX4_takeSheet_80 : decode cX4_takeSheet 80 = .ok (.return_, 1) := by decide +kernel
theorem dX4_sumOfPaces_0 : decode cX4_sumOfPaces 0 = .ok (.iconst 0, 1) := by decide +kernel
theorem dX4_sumOfPaces_1 : decode cX4_sumOfPaces 1 = .ok (.istore_n 1, 1) := by decide +kernel
theorem dX4_sumOfPaces_2 : decode cX4_sumOfPaces 2 = .ok (.iconst 0, 1) := by decide +kernel
theorem dX4_sumOfPaces_3 : decode cX4_sumOfPaces 3 = .ok (.istore_n 2, 1) := by decide +kernel
theorem dX4_sumOfPaces_4 : decode cX4_sumOfPaces 4 = .ok (.iload_n 2, 1) := by decide +kernel
theorem dX4_sumOfPaces_5 : decode cX4_sumOfPaces 5 = .ok (.aload_n 0, 1) := by decide +kernel
theorem dX4_sumOfPaces_6 : decode cX4_sumOfPaces 6 = .ok (.getfield 31, 3) := by decide +kernel
theorem dX4_sumOfPaces_9 : decode cX4_sumOfPaces 9 = .ok (.if_icmp .ge 18, 3) := by decide +kernel
theorem dX4_sumOfPaces_12 : decode cX4_sumOfPaces 12 = .ok (.iload_n 1, 1) := by decide +kernel
theorem dX4_sumOfPaces_13 : decode cX4_sumOfPaces 13 = .ok (.aload_n 0, 1) := by decide +kernel
theorem dX4_sumOfPaces_14 : decode cX4_sumOfPaces 14 = .ok (.getfield 9, 3) := by decide +kernel
theorem dX4_sumOfPaces_17 : decode cX4_sumOfPaces 17 = .ok (.iload_n 2, 1) := by decide +kernel
theorem dX4_sumOfPaces_18 : decode cX4_sumOfPaces 18 = .ok (.iaload, 1) := by decide +kernel
theorem dX4_sumOfPaces_19 : decode cX4_sumOfPaces 19 = .ok (.iadd, 1) := by decide +kernel
theorem dX4_sumOfPaces_20 : decode cX4_sumOfPaces 20 = .ok (.istore_n 1, 1) := by decide +kernel
theorem dX4_sumOfPaces_21 : decode cX4_sumOfPaces 21 = .ok (.iinc 2 1, 3) := by decide +kernel
theorem dX4_sumOfPaces_24 : decode cX4_sumOfPaces 24 = .ok (.goto (-20), 3) := by decide +kernel
theorem dX4_sumOfPaces_27 : decode cX4_sumOfPaces 27 = .ok (.iload_n 1, 1) := by decide +kernel
theorem dX4_sumOfPaces_28 : decode cX4_sumOfPaces 28 = .ok (.ireturn, 1) := by decide +kernel
theorem dX4_sumOfTired_0 : decode cX4_sumOfTired 0 = .ok (.iconst 0, 1) := by decide +kernel
theorem dX4_sumOfTired_1 : decode cX4_sumOfTired 1 = .ok (.istore_n 1, 1) := by decide +kernel
theorem dX4_sumOfTired_2 : decode cX4_sumOfTired 2 = .ok (.iconst 0, 1) := by decide +kernel
theorem dX4_sumOfTired_3 : decode cX4_sumOfTired 3 = .ok (.istore_n 2, 1) := by decide +kernel
theorem dX4_sumOfTired_4 : decode cX4_sumOfTired 4 = .ok (.iload_n 2, 1) := by decide +kernel
theorem dX4_sumOfTired_5 : decode cX4_sumOfTired 5 = .ok (.aload_n 0, 1) := by decide +kernel
theorem dX4_sumOfTired_6 : decode cX4_sumOfTired 6 = .ok (.getfield 31, 3) := by decide +kernel
theorem dX4_sumOfTired_9 : decode cX4_sumOfTired 9 = .ok (.if_icmp .ge 18, 3) := by decide +kernel
theorem dX4_sumOfTired_12 : decode cX4_sumOfTired 12 = .ok (.iload_n 1, 1) := by decide +kernel
theorem dX4_sumOfTired_13 : decode cX4_sumOfTired 13 = .ok (.aload_n 0, 1) := by decide +kernel
theorem dX4_sumOfTired_14 : decode cX4_sumOfTired 14 = .ok (.getfield 15, 3) := by decide +kernel
theorem dX4_sumOfTired_17 : decode cX4_sumOfTired 17 = .ok (.iload_n 2, 1) := by decide +kernel
theorem dX4_sumOfTired_18 : decode cX4_sumOfTired 18 = .ok (.iaload, 1) := by decide +kernel
theorem dX4_sumOfTired_19 : decode cX4_sumOfTired 19 = .ok (.iadd, 1) := by decide +kernel
theorem dX4_sumOfTired_20 : decode cX4_sumOfTired 20 = .ok (.istore_n 1, 1) := by decide +kernel
theorem dX4_sumOfTired_21 : decode cX4_sumOfTired 21 = .ok (.iinc 2 1, 3) := by decide +kernel
theorem dX4_sumOfTired_24 : decode cX4_sumOfTired 24 = .ok (.goto (-20), 3) := by decide +kernel
theorem dX4_sumOfTired_27 : decode cX4_sumOfTired 27 = .ok (.iload_n 1, 1) := by decide +kernel
theorem dX4_sumOfTired_28 : decode cX4_sumOfTired 28 = .ok (.ireturn, 1) := by decide +kernel
section Walk
variable {p : Program} {l : Launch} {e : Env} {s : State} {m : MethodId} {args : Array Value} {below : List Frame} {meth : Method} {c : Code} {G : GG} {B : Nat}
set_option maxHeartbeats 1000000 in
set_option maxRecDepth 10000 in
theorem wX4_copyFrom_10 (cx : Cx p s m args c cX4_copyFrom 3 RX4 G) (hr : meth.sig.returnType = none) (hlk : meth.locks = false) : ∀ (n : Nat) (a0 : Nat) (a1 : Nat) (x2 : Int32) (h0 : a0 ∈ rivers) (h1 : a1 ∈ rivers) (M : Mem) (q : Mem), fX4_copyFrom_10 n a0 a1 x2 M = some q → ∀ (H : Heap) (locs : List Loc) (ls : Array Slot), Wo Ph G B 205 s M H locs → lv_has ls 3 [(0, .ref (B + a0)), (1, .ref (B + a1)), (2, .int x2)] → W p l e (rmN (2)) s m args below meth c H locs 0 0 (MQ below (QcV Ph G B 205 q) args s 0 0 (fr B)) (F0 m 10 ls []) := by
  intro n
  induction n with
  | zero =>
    intro a0 a1 x2 h0 h1 M q hf H locs ls wo hl
    have hf : none = some q := hf
    cases hf
  | succ n ih =>
    intro a0 a1 x2 h0 h1 M q hf H locs ls wo hl
    rw [fX4_copyFrom_10] at hf
    refine lv_iload_n cx.1 cx.2.1 dX4_copyFrom_10 rfl (lv_at hl 2 rfl) ?_
    refine lv_aload_n cx.1 cx.2.1 dX4_copyFrom_11 rfl (lv_at hl 0 rfl) ?_
    refine r_getI cx wo (riv_ok _ h0).1.1 (riv_ok _ h0).1.2.1 (riv_ok _ h0).1.2.2 fiX4_31 dX4_copyFrom_12 ?_
    refine lv_icmp_ge (tgt := 72) cx.1 cx.2.1 dX4_copyFrom_15 (by decide) (fun c3 => ?_) (fun c3 => ?_)
    · rw [if_pos c3] at hf
      refine lv_aload_n cx.1 cx.2.1 dX4_copyFrom_72 rfl (lv_at hl 0 rfl) ?_
      refine lv_aload_n cx.1 cx.2.1 dX4_copyFrom_73 rfl (lv_at hl 1 rfl) ?_
      refine r_getI cx wo (riv_ok _ h1).1.1 (riv_ok _ h1).1.2.1 (riv_ok _ h1).1.2.2 fiX4_24 dX4_copyFrom_74 ?_
      obtain ⟨M4, e5, hf⟩ := lt_elim hf
      refine r_putI cx wo (riv_ok _ h0).1.1 (riv_ok _ h0).1.2.1 (riv_ok _ h0).1.2.2 fpX4_24 dX4_copyFrom_77 (fun H locs wo => ?_)
      rw [← e5] at wo
      refine lv_aload_n cx.1 cx.2.1 dX4_copyFrom_80 rfl (lv_at hl 0 rfl) ?_
      refine lv_aload_n cx.1 cx.2.1 dX4_copyFrom_81 rfl (lv_at hl 1 rfl) ?_
      refine r_getI cx wo (riv_ok _ h1).1.1 (riv_ok _ h1).1.2.1 (riv_ok _ h1).1.2.2 fiX4_28 dX4_copyFrom_82 ?_
      obtain ⟨M6, e7, hf⟩ := lt_elim hf
      refine r_putI cx wo (riv_ok _ h0).1.1 (riv_ok _ h0).1.2.1 (riv_ok _ h0).1.2.2 fpX4_28 dX4_copyFrom_85 (fun H locs wo => ?_)
      rw [← e7] at wo
      refine lv_aload_n cx.1 cx.2.1 dX4_copyFrom_88 rfl (lv_at hl 0 rfl) ?_
      refine lv_aload_n cx.1 cx.2.1 dX4_copyFrom_89 rfl (lv_at hl 1 rfl) ?_
      refine r_getI cx wo (riv_ok _ h1).1.1 (riv_ok _ h1).1.2.1 (riv_ok _ h1).1.2.2 fiX4_34 dX4_copyFrom_90 ?_
      obtain ⟨M8, e9, hf⟩ := lt_elim hf
      refine r_putI cx wo (riv_ok _ h0).1.1 (riv_ok _ h0).1.2.1 (riv_ok _ h0).1.2.2 fpX4_34 dX4_copyFrom_93 (fun H locs wo => ?_)
      rw [← e9] at wo
      refine lv_aload_n cx.1 cx.2.1 dX4_copyFrom_96 rfl (lv_at hl 0 rfl) ?_
      refine lv_aload_n cx.1 cx.2.1 dX4_copyFrom_97 rfl (lv_at hl 1 rfl) ?_
      refine r_getI cx wo (riv_ok _ h1).1.1 (riv_ok _ h1).1.2.1 (riv_ok _ h1).1.2.2 fiX4_37 dX4_copyFrom_98 ?_
      obtain ⟨M10, e11, hf⟩ := lt_elim hf
      refine r_putI cx wo (riv_ok _ h0).1.1 (riv_ok _ h0).1.2.1 (riv_ok _ h0).1.2.2 fpX4_37 dX4_copyFrom_101 (fun H locs wo => ?_)
      rw [← e11] at wo
      have hq := Option.some.inj hf
      subst hq
      exact r_vret cx wo hr hlk dX4_copyFrom_104
    · rw [if_neg c3] at hf
      refine lv_aload_n cx.1 cx.2.1 dX4_copyFrom_18 rfl (lv_at hl 0 rfl) ?_
      refine r_getR cx wo (riv_ok _ h0).1.1 (riv_ok _ h0).1.2.1 (riv_ok _ h0).1.2.2 fiX4_9 (rv_fn1 wo.2.2.2.1 h0) (by omega) dX4_copyFrom_19 ?_
      refine lv_iload_n cx.1 cx.2.1 dX4_copyFrom_22 rfl (lv_at hl 2 rfl) ?_
      refine lv_aload_n cx.1 cx.2.1 dX4_copyFrom_23 rfl (lv_at hl 1 rfl) ?_
      refine r_getR cx wo (riv_ok _ h1).1.1 (riv_ok _ h1).1.2.1 (riv_ok _ h1).1.2.2 fiX4_9 (rv_fn1 wo.2.2.2.1 h1) (by omega) dX4_copyFrom_24 ?_
      refine lv_iload_n cx.1 cx.2.1 dX4_copyFrom_27 rfl (lv_at hl 2 rfl) ?_
      obtain ⟨g12, hf⟩ := gd_elim hf
      refine r_iald cx wo (rvA1 h1).1 (rvA1 h1).2.1 (rvA1 h1).2.2 (by rw [(rvL1 h1)]; exact g12) dX4_copyFrom_28 ?_
      obtain ⟨g13, hf⟩ := gd_elim hf
      obtain ⟨M14, e15, hf⟩ := lt_elim hf
      refine r_iast cx wo (rvA1 h0).1 (rvA1 h0).2.1 (rvA1 h0).2.2 (by rw [(rvL1 h0)]; exact g13) dX4_copyFrom_29 (fun H locs wo => ?_)
      rw [← e15] at wo
      refine lv_aload_n cx.1 cx.2.1 dX4_copyFrom_30 rfl (lv_at hl 0 rfl) ?_
      refine r_getR cx wo (riv_ok _ h0).1.1 (riv_ok _ h0).1.2.1 (riv_ok _ h0).1.2.2 fiX4_15 (rv_fn2 wo.2.2.2.1 h0) (by omega) dX4_copyFrom_31 ?_
      refine lv_iload_n cx.1 cx.2.1 dX4_copyFrom_34 rfl (lv_at hl 2 rfl) ?_
      refine lv_aload_n cx.1 cx.2.1 dX4_copyFrom_35 rfl (lv_at hl 1 rfl) ?_
      refine r_getR cx wo (riv_ok _ h1).1.1 (riv_ok _ h1).1.2.1 (riv_ok _ h1).1.2.2 fiX4_15 (rv_fn2 wo.2.2.2.1 h1) (by omega) dX4_copyFrom_36 ?_
      refine lv_iload_n cx.1 cx.2.1 dX4_copyFrom_39 rfl (lv_at hl 2 rfl) ?_
      obtain ⟨g16, hf⟩ := gd_elim hf
      refine r_iald cx wo (rvA2 h1).1 (rvA2 h1).2.1 (rvA2 h1).2.2 (by rw [(rvL2 h1)]; exact g16) dX4_copyFrom_40 ?_
      obtain ⟨g17, hf⟩ := gd_elim hf
      obtain ⟨M18, e19, hf⟩ := lt_elim hf
      refine r_iast cx wo (rvA2 h0).1 (rvA2 h0).2.1 (rvA2 h0).2.2 (by rw [(rvL2 h0)]; exact g17) dX4_copyFrom_41 (fun H locs wo => ?_)
      rw [← e19] at wo
      refine lv_aload_n cx.1 cx.2.1 dX4_copyFrom_42 rfl (lv_at hl 0 rfl) ?_
      refine r_getR cx wo (riv_ok _ h0).1.1 (riv_ok _ h0).1.2.1 (riv_ok _ h0).1.2.2 fiX4_18 (rv_fn3 wo.2.2.2.1 h0) (by omega) dX4_copyFrom_43 ?_
      refine lv_iload_n cx.1 cx.2.1 dX4_copyFrom_46 rfl (lv_at hl 2 rfl) ?_
      refine lv_aload_n cx.1 cx.2.1 dX4_copyFrom_47 rfl (lv_at hl 1 rfl) ?_
      refine r_getR cx wo (riv_ok _ h1).1.1 (riv_ok _ h1).1.2.1 (riv_ok _ h1).1.2.2 fiX4_18 (rv_fn3 wo.2.2.2.1 h1) (by omega) dX4_copyFrom_48 ?_
      refine lv_iload_n cx.1 cx.2.1 dX4_copyFrom_51 rfl (lv_at hl 2 rfl) ?_
      obtain ⟨g20, hf⟩ := gd_elim hf
      refine r_iald cx wo (rvA3 h1).1 (rvA3 h1).2.1 (rvA3 h1).2.2 (by rw [(rvL3 h1)]; exact g20) dX4_copyFrom_52 ?_
      obtain ⟨g21, hf⟩ := gd_elim hf
      obtain ⟨M22, e23, hf⟩ := lt_elim hf
      refine r_iast cx wo (rvA3 h0).1 (rvA3 h0).2.1 (rvA3 h0).2.2 (by rw [(rvL3 h0)]; exact g21) dX4_copyFrom_53 (fun H locs wo => ?_)
      rw [← e23] at wo
      refine lv_aload_n cx.1 cx.2.1 dX4_copyFrom_54 rfl (lv_at hl 0 rfl) ?_
      refine r_getR cx wo (riv_ok _ h0).1.1 (riv_ok _ h0).1.2.1 (riv_ok _ h0).1.2.2 fiX4_21 (rv_fn4 wo.2.2.2.1 h0) (by omega) dX4_copyFrom_55 ?_
      refine lv_iload_n cx.1 cx.2.1 dX4_copyFrom_58 rfl (lv_at hl 2 rfl) ?_
      refine lv_aload_n cx.1 cx.2.1 dX4_copyFrom_59 rfl (lv_at hl 1 rfl) ?_
      refine r_getR cx wo (riv_ok _ h1).1.1 (riv_ok _ h1).1.2.1 (riv_ok _ h1).1.2.2 fiX4_21 (rv_fn4 wo.2.2.2.1 h1) (by omega) dX4_copyFrom_60 ?_
      refine lv_iload_n cx.1 cx.2.1 dX4_copyFrom_63 rfl (lv_at hl 2 rfl) ?_
      obtain ⟨g24, hf⟩ := gd_elim hf
      refine r_iald cx wo (rvA4 h1).1 (rvA4 h1).2.1 (rvA4 h1).2.2 (by rw [(rvL4 h1)]; exact g24) dX4_copyFrom_64 ?_
      obtain ⟨g25, hf⟩ := gd_elim hf
      obtain ⟨M26, e27, hf⟩ := lt_elim hf
      refine r_iast cx wo (rvA4 h0).1 (rvA4 h0).2.1 (rvA4 h0).2.2 (by rw [(rvL4 h0)]; exact g25) dX4_copyFrom_65 (fun H locs wo => ?_)
      rw [← e27] at wo
      obtain ⟨y28, e29, hf⟩ := lt_elim hf
      refine lv_iinc (v := y28) (lv' := [(2, .int y28), (0, .ref (B + a0)), (1, .ref (B + a1))]) cx.1 cx.2.1 dX4_copyFrom_66 hl (k := 2) rfl (by rw [e29]; rfl) (by decide) rfl (fun ls hl => ?_)
      refine lv_goto (tgt := 10) cx.1 cx.2.1 dX4_copyFrom_69 (by decide) ?_
      exact ih _ _ _ h0 h1 _ _ hf _ _ _ wo (lv_sub hl [1, 2, 0] rfl)
set_option maxHeartbeats 1000000 in
set_option maxRecDepth 10000 in
theorem mX4_copyFrom (l : Launch) {G : GG} {B : Nat} {a0 : Nat} {a1 : Nat} (h0 : a0 ∈ rivers) (h1 : a1 ∈ rivers) {M : Mem} {q : Mem} (hf : fX4_copyFrom a0 a1 M = some q) : Met l yX4_copyFrom (wsG yX4_copyFrom cX4_copyFrom 3 none) (rmN (2)) (PcW Ph G B 205 M [.ref (B + a0), .ref (B + a1)]) (QcV Ph G B 205 q) 0 0 (fr B) := by
  refine mk_Met (own := RX4) rfl rfl (Nat.le_of_ble_eq_true rfl) ?_
  intro p e s m below meth c ls cx hr hlk wo hl
  have hl : lv_has ls 3 [(0, .ref (B + a0)), (1, .ref (B + a1))] := hl
  unfold fX4_copyFrom at hf
  refine lv_aload_n cx.1 cx.2.1 dX4_copyFrom_0 rfl (lv_at hl 0 rfl) ?_
  refine lv_aload_n cx.1 cx.2.1 dX4_copyFrom_1 rfl (lv_at hl 1 rfl) ?_
  refine r_getI cx wo (riv_ok _ h1).1.1 (riv_ok _ h1).1.2.1 (riv_ok _ h1).1.2.2 fiX4_31 dX4_copyFrom_2 ?_
  obtain ⟨M1, e2, hf⟩ := lt_elim hf
  refine r_putI cx wo (riv_ok _ h0).1.1 (riv_ok _ h0).1.2.1 (riv_ok _ h0).1.2.2 fpX4_31 dX4_copyFrom_5 (fun H locs wo => ?_)
  rw [← e2] at wo
  refine lv_iconst (v := 0) cx.1 cx.2.1 dX4_copyFrom_8 (by decide) ?_
  refine lv_istore_n (lv' := [(2, .int 0), (0, .ref (B + a0)), (1, .ref (B + a1))]) cx.1 cx.2.1 dX4_copyFrom_9 rfl hl (by decide) rfl (fun ls hl => ?_)
  exact wX4_copyFrom_10 cx hr hlk _ _ _ _ h0 h1 _ _ hf _ _ _ wo (lv_sub hl [1, 2, 0] rfl)
set_option maxHeartbeats 1000000 in
set_option maxRecDepth 10000 in
theorem mX4_has (l : Launch) {G : GG} {B : Nat} {a0 : Nat} {x1 : Int32} (h0 : a0 ∈ rivers) {M : Mem} {q : Int32 × Mem} (hf : fX4_has a0 x1 M = some q) : Met l yX4_has (wsG yX4_has cX4_has 2 (some .boolean)) (rmN (2)) (PcW Ph G B 205 M [.ref (B + a0), .int x1]) (QcI Ph G B 205 q.1 q.2) 0 0 (fr B) := by
  refine mk_Met (own := RX4) rfl rfl (Nat.le_of_ble_eq_true rfl) ?_
  intro p e s m below meth c ls cx hr hlk wo hl
  have hl : lv_has ls 2 [(0, .ref (B + a0)), (1, .int x1)] := hl
  unfold fX4_has at hf
  refine lv_iload_n cx.1 cx.2.1 dX4_has_0 rfl (lv_at hl 1 rfl) ?_
  refine lv_if_lt (tgt := 16) cx.1 cx.2.1 dX4_has_1 (by decide) (fun c1 => ?_) (fun c1 => ?_)
  · rw [if_pos c1] at hf
    refine lv_iconst (v := 0) cx.1 cx.2.1 dX4_has_16 (by decide) ?_
    have hq := Option.some.inj hf
    subst hq
    exact r_zret cx wo hr hlk (Or.inl rfl) dX4_has_17
  · rw [if_neg c1] at hf
    refine lv_iload_n cx.1 cx.2.1 dX4_has_4 rfl (lv_at hl 1 rfl) ?_
    refine lv_aload_n cx.1 cx.2.1 dX4_has_5 rfl (lv_at hl 0 rfl) ?_
    refine r_getI cx wo (riv_ok _ h0).1.1 (riv_ok _ h0).1.2.1 (riv_ok _ h0).1.2.2 fiX4_31 dX4_has_6 ?_
    refine lv_icmp_ge (tgt := 16) cx.1 cx.2.1 dX4_has_9 (by decide) (fun c2 => ?_) (fun c2 => ?_)
    · rw [if_pos c2] at hf
      refine lv_iconst (v := 0) cx.1 cx.2.1 dX4_has_16 (by decide) ?_
      have hq := Option.some.inj hf
      subst hq
      exact r_zret cx wo hr hlk (Or.inl rfl) dX4_has_17
    · rw [if_neg c2] at hf
      refine lv_iconst (v := 1) cx.1 cx.2.1 dX4_has_12 (by decide) ?_
      refine lv_goto (tgt := 17) cx.1 cx.2.1 dX4_has_13 (by decide) ?_
      have hq := Option.some.inj hf
      subst hq
      exact r_zret cx wo hr hlk (Or.inr rfl) dX4_has_17
set_option maxHeartbeats 1000000 in
set_option maxRecDepth 10000 in
theorem mX4_boatOn (l : Launch) {G : GG} {B : Nat} {a0 : Nat} {x1 : Int32} (h0 : a0 ∈ rivers) {M : Mem} {q : Int32 × Mem} (hf : fX4_boatOn a0 x1 M = some q) : Met l yX4_boatOn (wsG yX4_boatOn cX4_boatOn 2 (some .int)) (rmN (2)) (PcW Ph G B 205 M [.ref (B + a0), .int x1]) (QcI Ph G B 205 q.1 q.2) 0 0 (fr B) := by
  refine mk_Met (own := RX4) rfl rfl (Nat.le_of_ble_eq_true rfl) ?_
  intro p e s m below meth c ls cx hr hlk wo hl
  have hl : lv_has ls 2 [(0, .ref (B + a0)), (1, .int x1)] := hl
  unfold fX4_boatOn at hf
  refine lv_iload_n cx.1 cx.2.1 dX4_boatOn_0 rfl (lv_at hl 1 rfl) ?_
  refine lv_if_lt (tgt := 21) cx.1 cx.2.1 dX4_boatOn_1 (by decide) (fun c1 => ?_) (fun c1 => ?_)
  · rw [if_pos c1] at hf
    refine lv_iconst (v := (-1)) cx.1 cx.2.1 dX4_boatOn_21 (by decide) ?_
    have hq := Option.some.inj hf
    subst hq
    exact r_iret cx wo hr hlk dX4_boatOn_22
  · rw [if_neg c1] at hf
    refine lv_iload_n cx.1 cx.2.1 dX4_boatOn_4 rfl (lv_at hl 1 rfl) ?_
    refine lv_aload_n cx.1 cx.2.1 dX4_boatOn_5 rfl (lv_at hl 0 rfl) ?_
    refine r_getI cx wo (riv_ok _ h0).1.1 (riv_ok _ h0).1.2.1 (riv_ok _ h0).1.2.2 fiX4_31 dX4_boatOn_6 ?_
    refine lv_icmp_ge (tgt := 21) cx.1 cx.2.1 dX4_boatOn_9 (by decide) (fun c2 => ?_) (fun c2 => ?_)
    · rw [if_pos c2] at hf
      refine lv_iconst (v := (-1)) cx.1 cx.2.1 dX4_boatOn_21 (by decide) ?_
      have hq := Option.some.inj hf
      subst hq
      exact r_iret cx wo hr hlk dX4_boatOn_22
    · rw [if_neg c2] at hf
      refine lv_aload_n cx.1 cx.2.1 dX4_boatOn_12 rfl (lv_at hl 0 rfl) ?_
      refine r_getR cx wo (riv_ok _ h0).1.1 (riv_ok _ h0).1.2.1 (riv_ok _ h0).1.2.2 fiX4_21 (rv_fn4 wo.2.2.2.1 h0) (by omega) dX4_boatOn_13 ?_
      refine lv_iload_n cx.1 cx.2.1 dX4_boatOn_16 rfl (lv_at hl 1 rfl) ?_
      obtain ⟨g3, hf⟩ := gd_elim hf
      refine r_iald cx wo (rvA4 h0).1 (rvA4 h0).2.1 (rvA4 h0).2.2 (by rw [(rvL4 h0)]; exact g3) dX4_boatOn_17 ?_
      refine lv_goto (tgt := 22) cx.1 cx.2.1 dX4_boatOn_18 (by decide) ?_
      have hq := Option.some.inj hf
      subst hq
      exact r_iret cx wo hr hlk dX4_boatOn_22
set_option maxHeartbeats 1000000 in
set_option maxRecDepth 10000 in
theorem mX4_addBoat (l : Launch) {G : GG} {B : Nat} {a0 : Nat} {x1 : Int32} {x2 : Int32} (h0 : a0 ∈ rivers) {M : Mem} {q : Mem} (hf : fX4_addBoat a0 x1 x2 M = some q) : Met l yX4_addBoat (wsG yX4_addBoat cX4_addBoat 3 none) (rmN (2)) (PcW Ph G B 205 M [.ref (B + a0), .int x1, .int x2]) (QcV Ph G B 205 q) 0 0 (fr B) := by
  refine mk_Met (own := RX4) rfl rfl (Nat.le_of_ble_eq_true rfl) ?_
  intro p e s m below meth c ls cx hr hlk wo hl
  have hl : lv_has ls 3 [(0, .ref (B + a0)), (1, .int x1), (2, .int x2)] := hl
  unfold fX4_addBoat at hf
  refine lv_aload_n cx.1 cx.2.1 dX4_addBoat_0 rfl (lv_at hl 0 rfl) ?_
  refine r_getI cx wo (riv_ok _ h0).1.1 (riv_ok _ h0).1.2.1 (riv_ok _ h0).1.2.2 fiX4_31 dX4_addBoat_1 ?_
  refine lv_bipush (v := 6) cx.1 cx.2.1 dX4_addBoat_4 (by decide) ?_
  refine lv_icmp_ge (tgt := 65) cx.1 cx.2.1 dX4_addBoat_6 (by decide) (fun c1 => ?_) (fun c1 => ?_)
  · rw [if_pos c1] at hf
    have hq := Option.some.inj hf
    subst hq
    exact r_vret cx wo hr hlk dX4_addBoat_65
  · rw [if_neg c1] at hf
    refine lv_aload_n cx.1 cx.2.1 dX4_addBoat_9 rfl (lv_at hl 0 rfl) ?_
    refine r_getR cx wo (riv_ok _ h0).1.1 (riv_ok _ h0).1.2.1 (riv_ok _ h0).1.2.2 fiX4_9 (rv_fn1 wo.2.2.2.1 h0) (by omega) dX4_addBoat_10 ?_
    refine lv_aload_n cx.1 cx.2.1 dX4_addBoat_13 rfl (lv_at hl 0 rfl) ?_
    refine r_getI cx wo (riv_ok _ h0).1.1 (riv_ok _ h0).1.2.1 (riv_ok _ h0).1.2.2 fiX4_31 dX4_addBoat_14 ?_
    refine lv_iload_n cx.1 cx.2.1 dX4_addBoat_17 rfl (lv_at hl 1 rfl) ?_
    obtain ⟨g2, hf⟩ := gd_elim hf
    obtain ⟨M3, e4, hf⟩ := lt_elim hf
    refine r_iast cx wo (rvA1 h0).1 (rvA1 h0).2.1 (rvA1 h0).2.2 (by rw [(rvL1 h0)]; exact g2) dX4_addBoat_18 (fun H locs wo => ?_)
    rw [← e4] at wo
    refine lv_aload_n cx.1 cx.2.1 dX4_addBoat_19 rfl (lv_at hl 0 rfl) ?_
    refine r_getR cx wo (riv_ok _ h0).1.1 (riv_ok _ h0).1.2.1 (riv_ok _ h0).1.2.2 fiX4_15 (rv_fn2 wo.2.2.2.1 h0) (by omega) dX4_addBoat_20 ?_
    refine lv_aload_n cx.1 cx.2.1 dX4_addBoat_23 rfl (lv_at hl 0 rfl) ?_
    refine r_getI cx wo (riv_ok _ h0).1.1 (riv_ok _ h0).1.2.1 (riv_ok _ h0).1.2.2 fiX4_31 dX4_addBoat_24 ?_
    refine lv_iload_n cx.1 cx.2.1 dX4_addBoat_27 rfl (lv_at hl 2 rfl) ?_
    obtain ⟨g5, hf⟩ := gd_elim hf
    obtain ⟨M6, e7, hf⟩ := lt_elim hf
    refine r_iast cx wo (rvA2 h0).1 (rvA2 h0).2.1 (rvA2 h0).2.2 (by rw [(rvL2 h0)]; exact g5) dX4_addBoat_28 (fun H locs wo => ?_)
    rw [← e7] at wo
    refine lv_aload_n cx.1 cx.2.1 dX4_addBoat_29 rfl (lv_at hl 0 rfl) ?_
    refine r_getR cx wo (riv_ok _ h0).1.1 (riv_ok _ h0).1.2.1 (riv_ok _ h0).1.2.2 fiX4_18 (rv_fn3 wo.2.2.2.1 h0) (by omega) dX4_addBoat_30 ?_
    refine lv_aload_n cx.1 cx.2.1 dX4_addBoat_33 rfl (lv_at hl 0 rfl) ?_
    refine r_getI cx wo (riv_ok _ h0).1.1 (riv_ok _ h0).1.2.1 (riv_ok _ h0).1.2.2 fiX4_31 dX4_addBoat_34 ?_
    refine lv_aload_n cx.1 cx.2.1 dX4_addBoat_37 rfl (lv_at hl 0 rfl) ?_
    refine r_getI cx wo (riv_ok _ h0).1.1 (riv_ok _ h0).1.2.1 (riv_ok _ h0).1.2.2 fiX4_31 dX4_addBoat_38 ?_
    obtain ⟨g8, hf⟩ := gd_elim hf
    obtain ⟨M9, e10, hf⟩ := lt_elim hf
    refine r_iast cx wo (rvA3 h0).1 (rvA3 h0).2.1 (rvA3 h0).2.2 (by rw [(rvL3 h0)]; exact g8) dX4_addBoat_41 (fun H locs wo => ?_)
    rw [← e10] at wo
    refine lv_aload_n cx.1 cx.2.1 dX4_addBoat_42 rfl (lv_at hl 0 rfl) ?_
    refine r_getR cx wo (riv_ok _ h0).1.1 (riv_ok _ h0).1.2.1 (riv_ok _ h0).1.2.2 fiX4_21 (rv_fn4 wo.2.2.2.1 h0) (by omega) dX4_addBoat_43 ?_
    refine lv_aload_n cx.1 cx.2.1 dX4_addBoat_46 rfl (lv_at hl 0 rfl) ?_
    refine r_getI cx wo (riv_ok _ h0).1.1 (riv_ok _ h0).1.2.1 (riv_ok _ h0).1.2.2 fiX4_31 dX4_addBoat_47 ?_
    refine lv_aload_n cx.1 cx.2.1 dX4_addBoat_50 rfl (lv_at hl 0 rfl) ?_
    refine r_getI cx wo (riv_ok _ h0).1.1 (riv_ok _ h0).1.2.1 (riv_ok _ h0).1.2.2 fiX4_31 dX4_addBoat_51 ?_
    obtain ⟨g11, hf⟩ := gd_elim hf
    obtain ⟨M12, e13, hf⟩ := lt_elim hf
    refine r_iast cx wo (rvA4 h0).1 (rvA4 h0).2.1 (rvA4 h0).2.2 (by rw [(rvL4 h0)]; exact g11) dX4_addBoat_54 (fun H locs wo => ?_)
    rw [← e13] at wo
    refine lv_aload_n cx.1 cx.2.1 dX4_addBoat_55 rfl (lv_at hl 0 rfl) ?_
    refine lv_dup cx.1 cx.2.1 dX4_addBoat_56 rfl ?_
    refine r_getI cx wo (riv_ok _ h0).1.1 (riv_ok _ h0).1.2.1 (riv_ok _ h0).1.2.2 fiX4_31 dX4_addBoat_57 ?_
    refine lv_iconst (v := 1) cx.1 cx.2.1 dX4_addBoat_60 (by decide) ?_
    refine lv_iadd cx.1 cx.2.1 dX4_addBoat_61 ?_
    obtain ⟨M14, e15, hf⟩ := lt_elim hf
    refine r_putI cx wo (riv_ok _ h0).1.1 (riv_ok _ h0).1.2.1 (riv_ok _ h0).1.2.2 fpX4_31 dX4_addBoat_62 (fun H locs wo => ?_)
    rw [← e15] at wo
    have hq := Option.some.inj hf
    subst hq
    exact r_vret cx wo hr hlk dX4_addBoat_65
set_option maxHeartbeats 1000000 in
set_option maxRecDepth 10000 in
theorem mX4_put (l : Launch) {G : GG} {B : Nat} {a0 : Nat} {x1 : Int32} {x2 : Int32} (h0 : a0 ∈ rivers) {M : Mem} {q : Mem} (hf : fX4_put a0 x1 x2 M = some q) : Met l yX4_put (wsG yX4_put cX4_put 3 none) (rmN (3)) (PcW Ph G B 205 M [.ref (B + a0), .int x1, .int x2]) (QcV Ph G B 205 q) 0 0 (fr B) := by
  refine mk_Met (own := RX4) rfl rfl (Nat.le_of_ble_eq_true rfl) ?_
  intro p e s m below meth c ls cx hr hlk wo hl
  have hl : lv_has ls 3 [(0, .ref (B + a0)), (1, .int x1), (2, .int x2)] := hl
  unfold fX4_put at hf
  refine lv_aload_n cx.1 cx.2.1 dX4_put_0 rfl (lv_at hl 0 rfl) ?_
  refine lv_iload_n cx.1 cx.2.1 dX4_put_1 rfl (lv_at hl 1 rfl) ?_
  obtain ⟨q1, e2, hf⟩ := bd_elim hf
  refine r_Vi (rest := []) cx wo (mX4_has l h0 e2) cvX4_40 rfl (riv_ok _ h0).1.1 (riv_ok _ h0).1.2.1 (riv_ok _ h0).1.2.2 rfl rfl hl.1 rfl (Nat.le_of_ble_eq_true rfl) (hR_ok (by decide)) dX4_put_2 (fun H locs wo => ?_)
  refine lv_if_eq (tgt := 34) cx.1 cx.2.1 dX4_put_5 (by decide) (fun c3 => ?_) (fun c3 => ?_)
  · rw [if_pos c3] at hf
    have hq := Option.some.inj hf
    subst hq
    exact r_vret cx wo hr hlk dX4_put_34
  · rw [if_neg c3] at hf
    refine lv_iload_n cx.1 cx.2.1 dX4_put_8 rfl (lv_at hl 2 rfl) ?_
    refine lv_if_lt (tgt := 34) cx.1 cx.2.1 dX4_put_9 (by decide) (fun c4 => ?_) (fun c4 => ?_)
    · rw [if_pos c4] at hf
      have hq := Option.some.inj hf
      subst hq
      exact r_vret cx wo hr hlk dX4_put_34
    · rw [if_neg c4] at hf
      refine lv_iload_n cx.1 cx.2.1 dX4_put_12 rfl (lv_at hl 2 rfl) ?_
      refine lv_aload_n cx.1 cx.2.1 dX4_put_13 rfl (lv_at hl 0 rfl) ?_
      refine r_getI cx wo (riv_ok _ h0).1.1 (riv_ok _ h0).1.2.1 (riv_ok _ h0).1.2.2 fiX4_31 dX4_put_14 ?_
      refine lv_icmp_ge (tgt := 34) cx.1 cx.2.1 dX4_put_17 (by decide) (fun c5 => ?_) (fun c5 => ?_)
      · rw [if_pos c5] at hf
        have hq := Option.some.inj hf
        subst hq
        exact r_vret cx wo hr hlk dX4_put_34
      · rw [if_neg c5] at hf
        refine lv_aload_n cx.1 cx.2.1 dX4_put_20 rfl (lv_at hl 0 rfl) ?_
        refine r_getR cx wo (riv_ok _ h0).1.1 (riv_ok _ h0).1.2.1 (riv_ok _ h0).1.2.2 fiX4_18 (rv_fn3 wo.2.2.2.1 h0) (by omega) dX4_put_21 ?_
        refine lv_iload_n cx.1 cx.2.1 dX4_put_24 rfl (lv_at hl 1 rfl) ?_
        refine lv_iload_n cx.1 cx.2.1 dX4_put_25 rfl (lv_at hl 2 rfl) ?_
        obtain ⟨g6, hf⟩ := gd_elim hf
        obtain ⟨M7, e8, hf⟩ := lt_elim hf
        refine r_iast cx wo (rvA3 h0).1 (rvA3 h0).2.1 (rvA3 h0).2.2 (by rw [(rvL3 h0)]; exact g6) dX4_put_26 (fun H locs wo => ?_)
        rw [← e8] at wo
        refine lv_aload_n cx.1 cx.2.1 dX4_put_27 rfl (lv_at hl 0 rfl) ?_
        refine r_getR cx wo (riv_ok _ h0).1.1 (riv_ok _ h0).1.2.1 (riv_ok _ h0).1.2.2 fiX4_21 (rv_fn4 wo.2.2.2.1 h0) (by omega) dX4_put_28 ?_
        refine lv_iload_n cx.1 cx.2.1 dX4_put_31 rfl (lv_at hl 2 rfl) ?_
        refine lv_iload_n cx.1 cx.2.1 dX4_put_32 rfl (lv_at hl 1 rfl) ?_
        obtain ⟨g9, hf⟩ := gd_elim hf
        obtain ⟨M10, e11, hf⟩ := lt_elim hf
        refine r_iast cx wo (rvA4 h0).1 (rvA4 h0).2.1 (rvA4 h0).2.2 (by rw [(rvL4 h0)]; exact g9) dX4_put_33 (fun H locs wo => ?_)
        rw [← e11] at wo
        have hq := Option.some.inj hf
        subst hq
        exact r_vret cx wo hr hlk dX4_put_34
set_option maxHeartbeats 1000000 in
set_option maxRecDepth 10000 in
theorem mX4_changePlaces (l : Launch) {G : GG} {B : Nat} {a0 : Nat} {x1 : Int32} {x2 : Int32} (h0 : a0 ∈ rivers) {M : Mem} {q : Mem} (hf : fX4_changePlaces a0 x1 x2 M = some q) : Met l yX4_changePlaces (wsG yX4_changePlaces cX4_changePlaces 4 none) (rmN (4)) (PcW Ph G B 205 M [.ref (B + a0), .int x1, .int x2]) (QcV Ph G B 205 q) 0 0 (fr B) := by
  refine mk_Met (own := RX4) rfl rfl (Nat.le_of_ble_eq_true rfl) ?_
  intro p e s m below meth c ls cx hr hlk wo hl
  have hl : lv_has ls 4 [(0, .ref (B + a0)), (1, .int x1), (2, .int x2)] := hl
  unfold fX4_changePlaces at hf
  refine lv_aload_n cx.1 cx.2.1 dX4_changePlaces_0 rfl (lv_at hl 0 rfl) ?_
  refine lv_iload_n cx.1 cx.2.1 dX4_changePlaces_1 rfl (lv_at hl 1 rfl) ?_
  obtain ⟨q1, e2, hf⟩ := bd_elim hf
  refine r_Vi (rest := []) cx wo (mX4_has l h0 e2) cvX4_40 rfl (riv_ok _ h0).1.1 (riv_ok _ h0).1.2.1 (riv_ok _ h0).1.2.2 rfl rfl hl.1 rfl (Nat.le_of_ble_eq_true rfl) (hR_ok (by decide)) dX4_changePlaces_2 (fun H locs wo => ?_)
  refine lv_if_eq (tgt := 40) cx.1 cx.2.1 dX4_changePlaces_5 (by decide) (fun c3 => ?_) (fun c3 => ?_)
  · rw [if_pos c3] at hf
    have hq := Option.some.inj hf
    subst hq
    exact r_vret cx wo hr hlk dX4_changePlaces_40
  · rw [if_neg c3] at hf
    refine lv_aload_n cx.1 cx.2.1 dX4_changePlaces_8 rfl (lv_at hl 0 rfl) ?_
    refine lv_iload_n cx.1 cx.2.1 dX4_changePlaces_9 rfl (lv_at hl 2 rfl) ?_
    obtain ⟨q4, e5, hf⟩ := bd_elim hf
    refine r_Vi (rest := []) cx wo (mX4_has l h0 e5) cvX4_40 rfl (riv_ok _ h0).1.1 (riv_ok _ h0).1.2.1 (riv_ok _ h0).1.2.2 rfl rfl hl.1 rfl (Nat.le_of_ble_eq_true rfl) (hR_ok (by decide)) dX4_changePlaces_10 (fun H locs wo => ?_)
    refine lv_if_eq (tgt := 40) cx.1 cx.2.1 dX4_changePlaces_13 (by decide) (fun c6 => ?_) (fun c6 => ?_)
    · rw [if_pos c6] at hf
      have hq := Option.some.inj hf
      subst hq
      exact r_vret cx wo hr hlk dX4_changePlaces_40
    · rw [if_neg c6] at hf
      refine lv_aload_n cx.1 cx.2.1 dX4_changePlaces_16 rfl (lv_at hl 0 rfl) ?_
      refine r_getR cx wo (riv_ok _ h0).1.1 (riv_ok _ h0).1.2.1 (riv_ok _ h0).1.2.2 fiX4_18 (rv_fn3 wo.2.2.2.1 h0) (by omega) dX4_changePlaces_17 ?_
      refine lv_iload_n cx.1 cx.2.1 dX4_changePlaces_20 rfl (lv_at hl 1 rfl) ?_
      obtain ⟨g7, hf⟩ := gd_elim hf
      refine r_iald cx wo (rvA3 h0).1 (rvA3 h0).2.1 (rvA3 h0).2.2 (by rw [(rvL3 h0)]; exact g7) dX4_changePlaces_21 ?_
      obtain ⟨y8, e9, hf⟩ := lt_elim hf
      refine r_topi e9 ?_
      refine lv_istore_n (lv' := [(3, .int y8), (0, .ref (B + a0)), (1, .int x1), (2, .int x2)]) cx.1 cx.2.1 dX4_changePlaces_22 rfl hl (by decide) rfl (fun ls hl => ?_)
      refine lv_aload_n cx.1 cx.2.1 dX4_changePlaces_23 rfl (lv_at hl 1 rfl) ?_
      refine lv_iload_n cx.1 cx.2.1 dX4_changePlaces_24 rfl (lv_at hl 2 rfl) ?_
      refine lv_aload_n cx.1 cx.2.1 dX4_changePlaces_25 rfl (lv_at hl 1 rfl) ?_
      refine r_getR cx wo (riv_ok _ h0).1.1 (riv_ok _ h0).1.2.1 (riv_ok _ h0).1.2.2 fiX4_18 (rv_fn3 wo.2.2.2.1 h0) (by omega) dX4_changePlaces_26 ?_
      refine lv_iload_n cx.1 cx.2.1 dX4_changePlaces_29 rfl (lv_at hl 3 rfl) ?_
      obtain ⟨g10, hf⟩ := gd_elim hf
      refine r_iald cx wo (rvA3 h0).1 (rvA3 h0).2.1 (rvA3 h0).2.2 (by rw [(rvL3 h0)]; exact g10) dX4_changePlaces_30 ?_
      obtain ⟨q11, e12, hf⟩ := bd_elim hf
      refine r_Vv (rest := []) cx wo (mX4_put l h0 e12) cvX4_44 rfl (riv_ok _ h0).1.1 (riv_ok _ h0).1.2.1 (riv_ok _ h0).1.2.2 rfl rfl hl.1 rfl (Nat.le_of_ble_eq_true rfl) (hR_ok (by decide)) dX4_changePlaces_31 (fun H locs wo => ?_)
      refine lv_aload_n cx.1 cx.2.1 dX4_changePlaces_34 rfl (lv_at hl 1 rfl) ?_
      refine lv_iload_n cx.1 cx.2.1 dX4_changePlaces_35 rfl (lv_at hl 3 rfl) ?_
      refine lv_iload_n cx.1 cx.2.1 dX4_changePlaces_36 rfl (lv_at hl 0 rfl) ?_
      obtain ⟨q13, e14, hf⟩ := bd_elim hf
      refine r_Vv (rest := []) cx wo (mX4_put l h0 e14) cvX4_44 rfl (riv_ok _ h0).1.1 (riv_ok _ h0).1.2.1 (riv_ok _ h0).1.2.2 rfl rfl hl.1 rfl (Nat.le_of_ble_eq_true rfl) (hR_ok (by decide)) dX4_changePlaces_37 (fun H locs wo => ?_)
      have hq := Option.some.inj hf
      subst hq
      exact r_vret cx wo hr hlk dX4_changePlaces_40
set_option maxHeartbeats 1000000 in
set_option maxRecDepth 10000 in
theorem wX4_standAs_2 (cx : Cx p s m args c cX4_standAs 3 RX4 G) (hr : meth.sig.returnType = none) (hlk : meth.locks = false) : ∀ (n : Nat) (a0 : Nat) (a1 : Nat) (x2 : Int32) (h0 : a0 ∈ rivers) (h1 : isI a1) (M : Mem) (q : Mem), fX4_standAs_2 n a0 a1 x2 M = some q → ∀ (H : Heap) (locs : List Loc) (ls : Array Slot), Wo Ph G B 205 s M H locs → lv_has ls 3 [(0, .ref (B + a0)), (1, .ref (B + a1)), (2, .int x2)] → W p l e (rmN (4)) s m args below meth c H locs 0 0 (MQ below (QcV Ph G B 205 q) args s 0 0 (fr B)) (F0 m 2 ls []) := by
  intro n
  induction n with
  | zero =>
    intro a0 a1 x2 h0 h1 M q hf H locs ls wo hl
    have hf : none = some q := hf
    cases hf
  | succ n ih =>
    intro a0 a1 x2 h0 h1 M q hf H locs ls wo hl
    rw [fX4_standAs_2] at hf
    refine lv_iload_n cx.1 cx.2.1 dX4_standAs_2 rfl (lv_at hl 2 rfl) ?_
    refine lv_aload_n cx.1 cx.2.1 dX4_standAs_3 rfl (lv_at hl 0 rfl) ?_
    refine r_getI cx wo (riv_ok _ h0).1.1 (riv_ok _ h0).1.2.1 (riv_ok _ h0).1.2.2 fiX4_31 dX4_standAs_4 ?_
    refine lv_icmp_ge (tgt := 30) cx.1 cx.2.1 dX4_standAs_7 (by decide) (fun c1 => ?_) (fun c1 => ?_)
    · rw [if_pos c1] at hf
      have hq := Option.some.inj hf
      subst hq
      exact r_vret cx wo hr hlk dX4_standAs_30
    · rw [if_neg c1] at hf
      refine lv_iload_n cx.1 cx.2.1 dX4_standAs_10 rfl (lv_at hl 2 rfl) ?_
      refine lv_aload_n cx.1 cx.2.1 dX4_standAs_11 rfl (lv_at hl 1 rfl) ?_
      refine r_alen (v := Int32.ofNat (ln a1)) cx wo (h1).1 (h1).2.1 (h1).2.2 rfl dX4_standAs_12 ?_
      refine lv_icmp_ge (tgt := 30) cx.1 cx.2.1 dX4_standAs_13 (by decide) (fun c2 => ?_) (fun c2 => ?_)
      · rw [if_pos c2] at hf
        have hq := Option.some.inj hf
        subst hq
        exact r_vret cx wo hr hlk dX4_standAs_30
      · rw [if_neg c2] at hf
        refine lv_aload_n cx.1 cx.2.1 dX4_standAs_16 rfl (lv_at hl 0 rfl) ?_
        refine lv_aload_n cx.1 cx.2.1 dX4_standAs_17 rfl (lv_at hl 1 rfl) ?_
        refine lv_iload_n cx.1 cx.2.1 dX4_standAs_18 rfl (lv_at hl 2 rfl) ?_
        obtain ⟨g3, hf⟩ := gd_elim hf
        refine r_iald cx wo (h1).1 (h1).2.1 (h1).2.2 g3 dX4_standAs_19 ?_
        refine lv_iload_n cx.1 cx.2.1 dX4_standAs_20 rfl (lv_at hl 2 rfl) ?_
        obtain ⟨q4, e5, hf⟩ := bd_elim hf
        refine r_Vv (rest := []) cx wo (mX4_put l h0 e5) cvX4_44 rfl (riv_ok _ h0).1.1 (riv_ok _ h0).1.2.1 (riv_ok _ h0).1.2.2 rfl rfl hl.1 rfl (Nat.le_of_ble_eq_true rfl) (hR_ok (by decide)) dX4_standAs_21 (fun H locs wo => ?_)
        obtain ⟨y6, e7, hf⟩ := lt_elim hf
        refine lv_iinc (v := y6) (lv' := [(2, .int y6), (0, .ref (B + a0)), (1, .ref (B + a1))]) cx.1 cx.2.1 dX4_standAs_24 hl (k := 2) rfl (by rw [e7]; rfl) (by decide) rfl (fun ls hl => ?_)
        refine lv_goto (tgt := 2) cx.1 cx.2.1 dX4_standAs_27 (by decide) ?_
        exact ih _ _ _ h0 h1 _ _ hf _ _ _ wo (lv_sub hl [1, 2, 0] rfl)
set_option maxHeartbeats 1000000 in
set_option maxRecDepth 10000 in
theorem mX4_standAs (l : Launch) {G : GG} {B : Nat} {a0 : Nat} {a1 : Nat} (h0 : a0 ∈ rivers) (h1 : isI a1) {M : Mem} {q : Mem} (hf : fX4_standAs a0 a1 M = some q) : Met l yX4_standAs (wsG yX4_standAs cX4_standAs 3 none) (rmN (4)) (PcW Ph G B 205 M [.ref (B + a0), .ref (B + a1)]) (QcV Ph G B 205 q) 0 0 (fr B) := by
  refine mk_Met (own := RX4) rfl rfl (Nat.le_of_ble_eq_true rfl) ?_
  intro p e s m below meth c ls cx hr hlk wo hl
  have hl : lv_has ls 3 [(0, .ref (B + a0)), (1, .ref (B + a1))] := hl
  unfold fX4_standAs at hf
  refine lv_iconst (v := 0) cx.1 cx.2.1 dX4_standAs_0 (by decide) ?_
  refine lv_istore_n (lv' := [(2, .int 0), (0, .ref (B + a0)), (1, .ref (B + a1))]) cx.1 cx.2.1 dX4_standAs_1 rfl hl (by decide) rfl (fun ls hl => ?_)
  exact wX4_standAs_2 cx hr hlk _ _ _ _ h0 h1 _ _ hf _ _ _ wo (lv_sub hl [1, 2, 0] rfl)
set_option maxHeartbeats 1000000 in
set_option maxRecDepth 10000 in
theorem wX4_orderNumber_4 (cx : Cx p s m args c cX4_orderNumber 3 RX4 G) (hr : meth.sig.returnType = (some .int)) (hlk : meth.locks = false) : ∀ (n : Nat) (a0 : Nat) (x1 : Int32) (x2 : Int32) (h0 : a0 ∈ rivers) (M : Mem) (q : Int32 × Mem), fX4_orderNumber_4 n a0 x1 x2 M = some q → ∀ (H : Heap) (locs : List Loc) (ls : Array Slot), Wo Ph G B 205 s M H locs → lv_has ls 3 [(0, .ref (B + a0)), (1, .int x1), (2, .int x2)] → W p l e (rmN (2)) s m args below meth c H locs 0 0 (MQ below (QcI Ph G B 205 q.1 q.2) args s 0 0 (fr B)) (F0 m 4 ls []) := by
  intro n
  induction n with
  | zero =>
    intro a0 x1 x2 h0 M q hf H locs ls wo hl
    have hf : none = some q := hf
    cases hf
  | succ n ih =>
    intro a0 x1 x2 h0 M q hf H locs ls wo hl
    rw [fX4_orderNumber_4] at hf
    refine lv_iload_n cx.1 cx.2.1 dX4_orderNumber_4 rfl (lv_at hl 2 rfl) ?_
    refine lv_aload_n cx.1 cx.2.1 dX4_orderNumber_5 rfl (lv_at hl 0 rfl) ?_
    refine r_getI cx wo (riv_ok _ h0).1.1 (riv_ok _ h0).1.2.1 (riv_ok _ h0).1.2.2 fiX4_31 dX4_orderNumber_6 ?_
    refine lv_icmp_ge (tgt := 30) cx.1 cx.2.1 dX4_orderNumber_9 (by decide) (fun c1 => ?_) (fun c1 => ?_)
    · rw [if_pos c1] at hf
      refine lv_iload_n cx.1 cx.2.1 dX4_orderNumber_30 rfl (lv_at hl 1 rfl) ?_
      have hq := Option.some.inj hf
      subst hq
      exact r_iret cx wo hr hlk dX4_orderNumber_31
    · rw [if_neg c1] at hf
      refine lv_iload_n cx.1 cx.2.1 dX4_orderNumber_12 rfl (lv_at hl 1 rfl) ?_
      refine lv_bipush (v := 6) cx.1 cx.2.1 dX4_orderNumber_13 (by decide) ?_
      refine lv_imul cx.1 cx.2.1 dX4_orderNumber_15 ?_
      refine lv_aload_n cx.1 cx.2.1 dX4_orderNumber_16 rfl (lv_at hl 0 rfl) ?_
      refine r_getR cx wo (riv_ok _ h0).1.1 (riv_ok _ h0).1.2.1 (riv_ok _ h0).1.2.2 fiX4_21 (rv_fn4 wo.2.2.2.1 h0) (by omega) dX4_orderNumber_17 ?_
      refine lv_iload_n cx.1 cx.2.1 dX4_orderNumber_20 rfl (lv_at hl 2 rfl) ?_
      obtain ⟨g2, hf⟩ := gd_elim hf
      refine r_iald cx wo (rvA4 h0).1 (rvA4 h0).2.1 (rvA4 h0).2.2 (by rw [(rvL4 h0)]; exact g2) dX4_orderNumber_21 ?_
      refine lv_iadd cx.1 cx.2.1 dX4_orderNumber_22 ?_
      obtain ⟨y3, e4, hf⟩ := lt_elim hf
      refine r_topi e4 ?_
      refine lv_istore_n (lv' := [(1, .int y3), (0, .ref (B + a0)), (2, .int x2)]) cx.1 cx.2.1 dX4_orderNumber_23 rfl hl (by decide) rfl (fun ls hl => ?_)
      obtain ⟨y5, e6, hf⟩ := lt_elim hf
      refine lv_iinc (v := y5) (lv' := [(2, .int y5), (1, .int y3), (0, .ref (B + a0))]) cx.1 cx.2.1 dX4_orderNumber_24 hl (k := 2) rfl (by rw [e6]; rfl) (by decide) rfl (fun ls hl => ?_)
      refine lv_goto (tgt := 4) cx.1 cx.2.1 dX4_orderNumber_27 (by decide) ?_
      exact ih _ _ _ h0 _ _ hf _ _ _ wo (lv_sub hl [2, 1, 0] rfl)
set_option maxHeartbeats 1000000 in
set_option maxRecDepth 10000 in
theorem mX4_orderNumber (l : Launch) {G : GG} {B : Nat} {a0 : Nat} (h0 : a0 ∈ rivers) {M : Mem} {q : Int32 × Mem} (hf : fX4_orderNumber a0 M = some q) : Met l yX4_orderNumber (wsG yX4_orderNumber cX4_orderNumber 3 (some .int)) (rmN (2)) (PcW Ph G B 205 M [.ref (B + a0)]) (QcI Ph G B 205 q.1 q.2) 0 0 (fr B) := by
  refine mk_Met (own := RX4) rfl rfl (Nat.le_of_ble_eq_true rfl) ?_
  intro p e s m below meth c ls cx hr hlk wo hl
  have hl : lv_has ls 3 [(0, .ref (B + a0))] := hl
  unfold fX4_orderNumber at hf
  refine lv_iconst (v := 0) cx.1 cx.2.1 dX4_orderNumber_0 (by decide) ?_
  refine lv_istore_n (lv' := [(1, .int 0), (0, .ref (B + a0))]) cx.1 cx.2.1 dX4_orderNumber_1 rfl hl (by decide) rfl (fun ls hl => ?_)
  refine lv_iconst (v := 0) cx.1 cx.2.1 dX4_orderNumber_2 (by decide) ?_
  refine lv_istore_n (lv' := [(2, .int 0), (1, .int 0), (0, .ref (B + a0))]) cx.1 cx.2.1 dX4_orderNumber_3 rfl hl (by decide) rfl (fun ls hl => ?_)
  exact wX4_orderNumber_4 cx hr hlk _ _ _ _ h0 _ _ hf _ _ _ wo (lv_sub hl [2, 1, 0] rfl)
set_option maxHeartbeats 1000000 in
set_option maxRecDepth 10000 in
theorem wX4_moveToFoot_32 (cx : Cx p s m args c cX4_moveToFoot 4 RX4 G) (hr : meth.sig.returnType = (some .int)) (hlk : meth.locks = false) : ∀ (n : Nat) (a0 : Nat) (x1 : Int32) (x2 : Int32) (x3 : Int32) (h0 : a0 ∈ rivers) (M : Mem) (q : Int32 × Mem), fX4_moveToFoot_32 n a0 x1 x2 x3 M = some q → ∀ (H : Heap) (locs : List Loc) (ls : Array Slot), Wo Ph G B 205 s M H locs → lv_has ls 4 [(0, .ref (B + a0)), (1, .int x1), (2, .int x2), (3, .int x3)] → W p l e (rmN (4)) s m args below meth c H locs 0 0 (MQ below (QcI Ph G B 205 q.1 q.2) args s 0 0 (fr B)) (F0 m 32 ls []) := by
  intro n
  induction n with
  | zero =>
    intro a0 x1 x2 x3 h0 M q hf H locs ls wo hl
    have hf : none = some q := hf
    cases hf
  | succ n ih =>
    intro a0 x1 x2 x3 h0 M q hf H locs ls wo hl
    rw [fX4_moveToFoot_32] at hf
    refine lv_iload_n cx.1 cx.2.1 dX4_moveToFoot_32 rfl (lv_at hl 3 rfl) ?_
    refine lv_aload_n cx.1 cx.2.1 dX4_moveToFoot_33 rfl (lv_at hl 0 rfl) ?_
    refine r_getI cx wo (riv_ok _ h0).1.1 (riv_ok _ h0).1.2.1 (riv_ok _ h0).1.2.2 fiX4_31 dX4_moveToFoot_34 ?_
    refine lv_iconst (v := 1) cx.1 cx.2.1 dX4_moveToFoot_37 (by decide) ?_
    refine lv_isub cx.1 cx.2.1 dX4_moveToFoot_38 ?_
    refine lv_icmp_ge (tgt := 61) cx.1 cx.2.1 dX4_moveToFoot_39 (by decide) (fun c8 => ?_) (fun c8 => ?_)
    · rw [if_pos c8] at hf
      refine lv_aload_n cx.1 cx.2.1 dX4_moveToFoot_61 rfl (lv_at hl 0 rfl) ?_
      refine lv_iload_n cx.1 cx.2.1 dX4_moveToFoot_62 rfl (lv_at hl 1 rfl) ?_
      refine lv_aload_n cx.1 cx.2.1 dX4_moveToFoot_63 rfl (lv_at hl 0 rfl) ?_
      refine r_getI cx wo (riv_ok _ h0).1.1 (riv_ok _ h0).1.2.1 (riv_ok _ h0).1.2.2 fiX4_31 dX4_moveToFoot_64 ?_
      refine lv_iconst (v := 1) cx.1 cx.2.1 dX4_moveToFoot_67 (by decide) ?_
      refine lv_isub cx.1 cx.2.1 dX4_moveToFoot_68 ?_
      obtain ⟨q9, e10, hf⟩ := bd_elim hf
      refine r_Vv (rest := []) cx wo (mX4_put l h0 e10) cvX4_44 rfl (riv_ok _ h0).1.1 (riv_ok _ h0).1.2.1 (riv_ok _ h0).1.2.2 rfl rfl hl.1 rfl (Nat.le_of_ble_eq_true rfl) (hR_ok (by decide)) dX4_moveToFoot_69 (fun H locs wo => ?_)
      refine lv_iload_n cx.1 cx.2.1 dX4_moveToFoot_72 rfl (lv_at hl 2 rfl) ?_
      have hq := Option.some.inj hf
      subst hq
      exact r_iret cx wo hr hlk dX4_moveToFoot_73
    · rw [if_neg c8] at hf
      refine lv_aload_n cx.1 cx.2.1 dX4_moveToFoot_42 rfl (lv_at hl 0 rfl) ?_
      refine lv_aload_n cx.1 cx.2.1 dX4_moveToFoot_43 rfl (lv_at hl 0 rfl) ?_
      refine r_getR cx wo (riv_ok _ h0).1.1 (riv_ok _ h0).1.2.1 (riv_ok _ h0).1.2.2 fiX4_21 (rv_fn4 wo.2.2.2.1 h0) (by omega) dX4_moveToFoot_44 ?_
      refine lv_iload_n cx.1 cx.2.1 dX4_moveToFoot_47 rfl (lv_at hl 3 rfl) ?_
      refine lv_iconst (v := 1) cx.1 cx.2.1 dX4_moveToFoot_48 (by decide) ?_
      refine lv_iadd cx.1 cx.2.1 dX4_moveToFoot_49 ?_
      obtain ⟨g11, hf⟩ := gd_elim hf
      refine r_iald cx wo (rvA4 h0).1 (rvA4 h0).2.1 (rvA4 h0).2.2 (by rw [(rvL4 h0)]; exact g11) dX4_moveToFoot_50 ?_
      refine lv_iload_n cx.1 cx.2.1 dX4_moveToFoot_51 rfl (lv_at hl 3 rfl) ?_
      obtain ⟨q12, e13, hf⟩ := bd_elim hf
      refine r_Vv (rest := []) cx wo (mX4_put l h0 e13) cvX4_44 rfl (riv_ok _ h0).1.1 (riv_ok _ h0).1.2.1 (riv_ok _ h0).1.2.2 rfl rfl hl.1 rfl (Nat.le_of_ble_eq_true rfl) (hR_ok (by decide)) dX4_moveToFoot_52 (fun H locs wo => ?_)
      obtain ⟨y14, e15, hf⟩ := lt_elim hf
      refine lv_iinc (v := y14) (lv' := [(3, .int y14), (0, .ref (B + a0)), (1, .int x1), (2, .int x2)]) cx.1 cx.2.1 dX4_moveToFoot_55 hl (k := 3) rfl (by rw [e15]; rfl) (by decide) rfl (fun ls hl => ?_)
      refine lv_goto (tgt := 32) cx.1 cx.2.1 dX4_moveToFoot_58 (by decide) ?_
      exact ih _ _ _ _ h0 _ _ hf _ _ _ wo (lv_sub hl [1, 2, 3, 0] rfl)
set_option maxHeartbeats 1000000 in
set_option maxRecDepth 10000 in
theorem mX4_moveToFoot (l : Launch) {G : GG} {B : Nat} {a0 : Nat} {x1 : Int32} (h0 : a0 ∈ rivers) {M : Mem} {q : Int32 × Mem} (hf : fX4_moveToFoot a0 x1 M = some q) : Met l yX4_moveToFoot (wsG yX4_moveToFoot cX4_moveToFoot 4 (some .int)) (rmN (4)) (PcW Ph G B 205 M [.ref (B + a0), .int x1]) (QcI Ph G B 205 q.1 q.2) 0 0 (fr B) := by
  refine mk_Met (own := RX4) rfl rfl (Nat.le_of_ble_eq_true rfl) ?_
  intro p e s m below meth c ls cx hr hlk wo hl
  have hl : lv_has ls 4 [(0, .ref (B + a0)), (1, .int x1)] := hl
  unfold fX4_moveToFoot at hf
  refine lv_aload_n cx.1 cx.2.1 dX4_moveToFoot_0 rfl (lv_at hl 0 rfl) ?_
  refine lv_iload_n cx.1 cx.2.1 dX4_moveToFoot_1 rfl (lv_at hl 1 rfl) ?_
  obtain ⟨q1, e2, hf⟩ := bd_elim hf
  refine r_Vi (rest := []) cx wo (mX4_has l h0 e2) cvX4_40 rfl (riv_ok _ h0).1.1 (riv_ok _ h0).1.2.1 (riv_ok _ h0).1.2.2 rfl rfl hl.1 rfl (Nat.le_of_ble_eq_true rfl) (hR_ok (by decide)) dX4_moveToFoot_2 (fun H locs wo => ?_)
  refine lv_if_ne (tgt := 10) cx.1 cx.2.1 dX4_moveToFoot_5 (by decide) (fun c3 => ?_) (fun c3 => ?_)
  · rw [if_neg c3] at hf
    refine lv_aload_n cx.1 cx.2.1 dX4_moveToFoot_10 rfl (lv_at hl 0 rfl) ?_
    refine r_getR cx wo (riv_ok _ h0).1.1 (riv_ok _ h0).1.2.1 (riv_ok _ h0).1.2.2 fiX4_18 (rv_fn3 wo.2.2.2.1 h0) (by omega) dX4_moveToFoot_11 ?_
    refine lv_iload_n cx.1 cx.2.1 dX4_moveToFoot_14 rfl (lv_at hl 1 rfl) ?_
    obtain ⟨g4, hf⟩ := gd_elim hf
    refine r_iald cx wo (rvA3 h0).1 (rvA3 h0).2.1 (rvA3 h0).2.2 (by rw [(rvL3 h0)]; exact g4) dX4_moveToFoot_15 ?_
    obtain ⟨y5, e6, hf⟩ := lt_elim hf
    refine r_topi e6 ?_
    refine lv_istore_n (lv' := [(2, .int y5), (0, .ref (B + a0)), (1, .int x1)]) cx.1 cx.2.1 dX4_moveToFoot_16 rfl hl (by decide) rfl (fun ls hl => ?_)
    refine lv_iload_n cx.1 cx.2.1 dX4_moveToFoot_17 rfl (lv_at hl 0 rfl) ?_
    refine lv_aload_n cx.1 cx.2.1 dX4_moveToFoot_18 rfl (lv_at hl 1 rfl) ?_
    refine r_getI cx wo (riv_ok _ h0).1.1 (riv_ok _ h0).1.2.1 (riv_ok _ h0).1.2.2 fiX4_31 dX4_moveToFoot_19 ?_
    refine lv_iconst (v := 1) cx.1 cx.2.1 dX4_moveToFoot_22 (by decide) ?_
    refine lv_isub cx.1 cx.2.1 dX4_moveToFoot_23 ?_
    refine lv_icmp_ne (tgt := 30) cx.1 cx.2.1 dX4_moveToFoot_24 (by decide) (fun c7 => ?_) (fun c7 => ?_)
    · rw [if_neg c7] at hf
      refine lv_iload_n cx.1 cx.2.1 dX4_moveToFoot_30 rfl (lv_at hl 0 rfl) ?_
      refine lv_istore_n (lv' := [(3, .int y5), (2, .int y5), (0, .ref (B + a0)), (1, .int x1)]) cx.1 cx.2.1 dX4_moveToFoot_31 rfl hl (by decide) rfl (fun ls hl => ?_)
      exact wX4_moveToFoot_32 cx hr hlk _ _ _ _ _ h0 _ _ hf _ _ _ wo (lv_sub hl [2, 3, 1, 0] rfl)
    · rw [if_pos c7] at hf
      refine lv_bipush (v := (-2)) cx.1 cx.2.1 dX4_moveToFoot_27 (by decide) ?_
      have hq := Option.some.inj hf
      subst hq
      exact r_iret cx wo hr hlk dX4_moveToFoot_29
  · rw [if_pos c3] at hf
    refine lv_iconst (v := (-1)) cx.1 cx.2.1 dX4_moveToFoot_8 (by decide) ?_
    have hq := Option.some.inj hf
    subst hq
    exact r_iret cx wo hr hlk dX4_moveToFoot_9
set_option maxHeartbeats 1000000 in
set_option maxRecDepth 10000 in
theorem mX4_restBoat (l : Launch) {G : GG} {B : Nat} {a0 : Nat} {x1 : Int32} (h0 : a0 ∈ rivers) {M : Mem} {q : Int32 × Mem} (hf : fX4_restBoat a0 x1 M = some q) : Met l yX4_restBoat (wsG yX4_restBoat cX4_restBoat 3 (some .int)) (rmN (3)) (PcW Ph G B 205 M [.ref (B + a0), .int x1]) (QcI Ph G B 205 q.1 q.2) 0 0 (fr B) := by
  refine mk_Met (own := RX4) rfl rfl (Nat.le_of_ble_eq_true rfl) ?_
  intro p e s m below meth c ls cx hr hlk wo hl
  have hl : lv_has ls 3 [(0, .ref (B + a0)), (1, .int x1)] := hl
  unfold fX4_restBoat at hf
  refine lv_aload_n cx.1 cx.2.1 dX4_restBoat_0 rfl (lv_at hl 0 rfl) ?_
  refine lv_iload_n cx.1 cx.2.1 dX4_restBoat_1 rfl (lv_at hl 1 rfl) ?_
  obtain ⟨q1, e2, hf⟩ := bd_elim hf
  refine r_Vi (rest := []) cx wo (mX4_has l h0 e2) cvX4_40 rfl (riv_ok _ h0).1.1 (riv_ok _ h0).1.2.1 (riv_ok _ h0).1.2.2 rfl rfl hl.1 rfl (Nat.le_of_ble_eq_true rfl) (hR_ok (by decide)) dX4_restBoat_2 (fun H locs wo => ?_)
  refine lv_if_ne (tgt := 10) cx.1 cx.2.1 dX4_restBoat_5 (by decide) (fun c3 => ?_) (fun c3 => ?_)
  · rw [if_neg c3] at hf
    refine lv_aload_n cx.1 cx.2.1 dX4_restBoat_10 rfl (lv_at hl 0 rfl) ?_
    refine r_getR cx wo (riv_ok _ h0).1.1 (riv_ok _ h0).1.2.1 (riv_ok _ h0).1.2.2 fiX4_15 (rv_fn2 wo.2.2.2.1 h0) (by omega) dX4_restBoat_11 ?_
    refine lv_iload_n cx.1 cx.2.1 dX4_restBoat_14 rfl (lv_at hl 1 rfl) ?_
    obtain ⟨g4, hf⟩ := gd_elim hf
    refine r_iald cx wo (rvA2 h0).1 (rvA2 h0).2.1 (rvA2 h0).2.2 (by rw [(rvL2 h0)]; exact g4) dX4_restBoat_15 ?_
    obtain ⟨y5, e6, hf⟩ := lt_elim hf
    refine r_topi e6 ?_
    refine lv_istore_n (lv' := [(2, .int y5), (0, .ref (B + a0)), (1, .int x1)]) cx.1 cx.2.1 dX4_restBoat_16 rfl hl (by decide) rfl (fun ls hl => ?_)
    refine lv_aload_n cx.1 cx.2.1 dX4_restBoat_17 rfl (lv_at hl 1 rfl) ?_
    refine r_getR cx wo (riv_ok _ h0).1.1 (riv_ok _ h0).1.2.1 (riv_ok _ h0).1.2.2 fiX4_15 (rv_fn2 wo.2.2.2.1 h0) (by omega) dX4_restBoat_18 ?_
    refine lv_iload_n cx.1 cx.2.1 dX4_restBoat_21 rfl (lv_at hl 2 rfl) ?_
    refine lv_iconst (v := 0) cx.1 cx.2.1 dX4_restBoat_22 (by decide) ?_
    obtain ⟨g7, hf⟩ := gd_elim hf
    obtain ⟨M8, e9, hf⟩ := lt_elim hf
    refine r_iast cx wo (rvA2 h0).1 (rvA2 h0).2.1 (rvA2 h0).2.2 (by rw [(rvL2 h0)]; exact g7) dX4_restBoat_23 (fun H locs wo => ?_)
    rw [← e9] at wo
    refine lv_iload_n cx.1 cx.2.1 dX4_restBoat_24 rfl (lv_at hl 0 rfl) ?_
    refine lv_if_ne (tgt := 33) cx.1 cx.2.1 dX4_restBoat_25 (by decide) (fun c10 => ?_) (fun c10 => ?_)
    · rw [if_neg c10] at hf
      refine lv_iload_n cx.1 cx.2.1 dX4_restBoat_33 rfl (lv_at hl 0 rfl) ?_
      have hq := Option.some.inj hf
      subst hq
      exact r_iret cx wo hr hlk dX4_restBoat_34
    · rw [if_pos c10] at hf
      refine lv_bipush (v := (-2)) cx.1 cx.2.1 dX4_restBoat_28 (by decide) ?_
      refine lv_goto (tgt := 34) cx.1 cx.2.1 dX4_restBoat_30 (by decide) ?_
      have hq := Option.some.inj hf
      subst hq
      exact r_iret cx wo hr hlk dX4_restBoat_34
  · rw [if_pos c3] at hf
    refine lv_iconst (v := (-1)) cx.1 cx.2.1 dX4_restBoat_8 (by decide) ?_
    have hq := Option.some.inj hf
    subst hq
    exact r_iret cx wo hr hlk dX4_restBoat_9
set_option maxHeartbeats 1000000 in
set_option maxRecDepth 10000 in
theorem mX4_setPace (l : Launch) {G : GG} {B : Nat} {a0 : Nat} {x1 : Int32} {x2 : Int32} (h0 : a0 ∈ rivers) {M : Mem} {q : Int32 × Mem} (hf : fX4_setPace a0 x1 x2 M = some q) : Met l yX4_setPace (wsG yX4_setPace cX4_setPace 4 (some .int)) (rmN (3)) (PcW Ph G B 205 M [.ref (B + a0), .int x1, .int x2]) (QcI Ph G B 205 q.1 q.2) 0 0 (fr B) := by
  refine mk_Met (own := RX4) rfl rfl (Nat.le_of_ble_eq_true rfl) ?_
  intro p e s m below meth c ls cx hr hlk wo hl
  have hl : lv_has ls 4 [(0, .ref (B + a0)), (1, .int x1), (2, .int x2)] := hl
  unfold fX4_setPace at hf
  refine lv_aload_n cx.1 cx.2.1 dX4_setPace_0 rfl (lv_at hl 0 rfl) ?_
  refine lv_iload_n cx.1 cx.2.1 dX4_setPace_1 rfl (lv_at hl 1 rfl) ?_
  obtain ⟨q1, e2, hf⟩ := bd_elim hf
  refine r_Vi (rest := []) cx wo (mX4_has l h0 e2) cvX4_40 rfl (riv_ok _ h0).1.1 (riv_ok _ h0).1.2.1 (riv_ok _ h0).1.2.2 rfl rfl hl.1 rfl (Nat.le_of_ble_eq_true rfl) (hR_ok (by decide)) dX4_setPace_2 (fun H locs wo => ?_)
  refine lv_if_eq (tgt := 19) cx.1 cx.2.1 dX4_setPace_5 (by decide) (fun c3 => ?_) (fun c3 => ?_)
  · rw [if_pos c3] at hf
    refine lv_iconst (v := (-1)) cx.1 cx.2.1 dX4_setPace_19 (by decide) ?_
    have hq := Option.some.inj hf
    subst hq
    exact r_iret cx wo hr hlk dX4_setPace_20
  · rw [if_neg c3] at hf
    refine lv_iload_n cx.1 cx.2.1 dX4_setPace_8 rfl (lv_at hl 2 rfl) ?_
    refine lv_iconst (v := 1) cx.1 cx.2.1 dX4_setPace_9 (by decide) ?_
    refine lv_icmp_lt (tgt := 19) cx.1 cx.2.1 dX4_setPace_10 (by decide) (fun c4 => ?_) (fun c4 => ?_)
    · rw [if_pos c4] at hf
      refine lv_iconst (v := (-1)) cx.1 cx.2.1 dX4_setPace_19 (by decide) ?_
      have hq := Option.some.inj hf
      subst hq
      exact r_iret cx wo hr hlk dX4_setPace_20
    · rw [if_neg c4] at hf
      refine lv_iload_n cx.1 cx.2.1 dX4_setPace_13 rfl (lv_at hl 2 rfl) ?_
      refine lv_bipush (v := 9) cx.1 cx.2.1 dX4_setPace_14 (by decide) ?_
      refine lv_icmp_le (tgt := 21) cx.1 cx.2.1 dX4_setPace_16 (by decide) (fun c5 => ?_) (fun c5 => ?_)
      · rw [if_pos c5] at hf
        refine lv_aload_n cx.1 cx.2.1 dX4_setPace_21 rfl (lv_at hl 0 rfl) ?_
        refine r_getR cx wo (riv_ok _ h0).1.1 (riv_ok _ h0).1.2.1 (riv_ok _ h0).1.2.2 fiX4_9 (rv_fn1 wo.2.2.2.1 h0) (by omega) dX4_setPace_22 ?_
        refine lv_iload_n cx.1 cx.2.1 dX4_setPace_25 rfl (lv_at hl 1 rfl) ?_
        obtain ⟨g6, hf⟩ := gd_elim hf
        refine r_iald cx wo (rvA1 h0).1 (rvA1 h0).2.1 (rvA1 h0).2.2 (by rw [(rvL1 h0)]; exact g6) dX4_setPace_26 ?_
        obtain ⟨y7, e8, hf⟩ := lt_elim hf
        refine r_topi e8 ?_
        refine lv_istore_n (lv' := [(3, .int y7), (0, .ref (B + a0)), (1, .int x1), (2, .int x2)]) cx.1 cx.2.1 dX4_setPace_27 rfl hl (by decide) rfl (fun ls hl => ?_)
        refine lv_aload_n cx.1 cx.2.1 dX4_setPace_28 rfl (lv_at hl 1 rfl) ?_
        refine r_getR cx wo (riv_ok _ h0).1.1 (riv_ok _ h0).1.2.1 (riv_ok _ h0).1.2.2 fiX4_9 (rv_fn1 wo.2.2.2.1 h0) (by omega) dX4_setPace_29 ?_
        refine lv_iload_n cx.1 cx.2.1 dX4_setPace_32 rfl (lv_at hl 2 rfl) ?_
        refine lv_iload_n cx.1 cx.2.1 dX4_setPace_33 rfl (lv_at hl 3 rfl) ?_
        obtain ⟨g9, hf⟩ := gd_elim hf
        obtain ⟨M10, e11, hf⟩ := lt_elim hf
        refine r_iast cx wo (rvA1 h0).1 (rvA1 h0).2.1 (rvA1 h0).2.2 (by rw [(rvL1 h0)]; exact g9) dX4_setPace_34 (fun H locs wo => ?_)
        rw [← e11] at wo
        refine lv_iload_n cx.1 cx.2.1 dX4_setPace_35 rfl (lv_at hl 0 rfl) ?_
        refine lv_iload_n cx.1 cx.2.1 dX4_setPace_36 rfl (lv_at hl 3 rfl) ?_
        refine lv_icmp_ne (tgt := 45) cx.1 cx.2.1 dX4_setPace_37 (by decide) (fun c12 => ?_) (fun c12 => ?_)
        · rw [if_neg c12] at hf
          refine lv_iload_n cx.1 cx.2.1 dX4_setPace_45 rfl (lv_at hl 0 rfl) ?_
          have hq := Option.some.inj hf
          subst hq
          exact r_iret cx wo hr hlk dX4_setPace_46
        · rw [if_pos c12] at hf
          refine lv_bipush (v := (-2)) cx.1 cx.2.1 dX4_setPace_40 (by decide) ?_
          refine lv_goto (tgt := 46) cx.1 cx.2.1 dX4_setPace_42 (by decide) ?_
          have hq := Option.some.inj hf
          subst hq
          exact r_iret cx wo hr hlk dX4_setPace_46
      · rw [if_neg c5] at hf
        refine lv_iconst (v := (-1)) cx.1 cx.2.1 dX4_setPace_19 (by decide) ?_
        have hq := Option.some.inj hf
        subst hq
        exact r_iret cx wo hr hlk dX4_setPace_20
set_option maxHeartbeats 1000000 in
set_option maxRecDepth 10000 in
theorem mX4_setGap (l : Launch) {G : GG} {B : Nat} {a0 : Nat} {x1 : Int32} (h0 : a0 ∈ rivers) {M : Mem} {q : Int32 × Mem} (hf : fX4_setGap a0 x1 M = some q) : Met l yX4_setGap (wsG yX4_setGap cX4_setGap 3 (some .int)) (rmN (2)) (PcW Ph G B 205 M [.ref (B + a0), .int x1]) (QcI Ph G B 205 q.1 q.2) 0 0 (fr B) := by
  refine mk_Met (own := RX4) rfl rfl (Nat.le_of_ble_eq_true rfl) ?_
  intro p e s m below meth c ls cx hr hlk wo hl
  have hl : lv_has ls 3 [(0, .ref (B + a0)), (1, .int x1)] := hl
  unfold fX4_setGap at hf
  refine lv_iload_n cx.1 cx.2.1 dX4_setGap_0 rfl (lv_at hl 1 rfl) ?_
  refine lv_iconst (v := 1) cx.1 cx.2.1 dX4_setGap_1 (by decide) ?_
  refine lv_icmp_lt (tgt := 11) cx.1 cx.2.1 dX4_setGap_2 (by decide) (fun c1 => ?_) (fun c1 => ?_)
  · rw [if_pos c1] at hf
    refine lv_iconst (v := (-1)) cx.1 cx.2.1 dX4_setGap_11 (by decide) ?_
    have hq := Option.some.inj hf
    subst hq
    exact r_iret cx wo hr hlk dX4_setGap_12
  · rw [if_neg c1] at hf
    refine lv_iload_n cx.1 cx.2.1 dX4_setGap_5 rfl (lv_at hl 1 rfl) ?_
    refine lv_bipush (v := 30) cx.1 cx.2.1 dX4_setGap_6 (by decide) ?_
    refine lv_icmp_le (tgt := 13) cx.1 cx.2.1 dX4_setGap_8 (by decide) (fun c2 => ?_) (fun c2 => ?_)
    · rw [if_pos c2] at hf
      refine lv_aload_n cx.1 cx.2.1 dX4_setGap_13 rfl (lv_at hl 0 rfl) ?_
      refine r_getI cx wo (riv_ok _ h0).1.1 (riv_ok _ h0).1.2.1 (riv_ok _ h0).1.2.2 fiX4_24 dX4_setGap_14 ?_
      obtain ⟨y3, e4, hf⟩ := lt_elim hf
      refine r_topi e4 ?_
      refine lv_istore_n (lv' := [(2, .int y3), (0, .ref (B + a0)), (1, .int x1)]) cx.1 cx.2.1 dX4_setGap_17 rfl hl (by decide) rfl (fun ls hl => ?_)
      refine lv_aload_n cx.1 cx.2.1 dX4_setGap_18 rfl (lv_at hl 1 rfl) ?_
      refine lv_iload_n cx.1 cx.2.1 dX4_setGap_19 rfl (lv_at hl 2 rfl) ?_
      obtain ⟨M5, e6, hf⟩ := lt_elim hf
      refine r_putI cx wo (riv_ok _ h0).1.1 (riv_ok _ h0).1.2.1 (riv_ok _ h0).1.2.2 fpX4_24 dX4_setGap_20 (fun H locs wo => ?_)
      rw [← e6] at wo
      refine lv_iload_n cx.1 cx.2.1 dX4_setGap_23 rfl (lv_at hl 0 rfl) ?_
      refine lv_iload_n cx.1 cx.2.1 dX4_setGap_24 rfl (lv_at hl 2 rfl) ?_
      refine lv_icmp_ne (tgt := 33) cx.1 cx.2.1 dX4_setGap_25 (by decide) (fun c7 => ?_) (fun c7 => ?_)
      · rw [if_neg c7] at hf
        refine lv_iload_n cx.1 cx.2.1 dX4_setGap_33 rfl (lv_at hl 0 rfl) ?_
        have hq := Option.some.inj hf
        subst hq
        exact r_iret cx wo hr hlk dX4_setGap_34
      · rw [if_pos c7] at hf
        refine lv_bipush (v := (-2)) cx.1 cx.2.1 dX4_setGap_28 (by decide) ?_
        refine lv_goto (tgt := 34) cx.1 cx.2.1 dX4_setGap_30 (by decide) ?_
        have hq := Option.some.inj hf
        subst hq
        exact r_iret cx wo hr hlk dX4_setGap_34
    · rw [if_neg c2] at hf
      refine lv_iconst (v := (-1)) cx.1 cx.2.1 dX4_setGap_11 (by decide) ?_
      have hq := Option.some.inj hf
      subst hq
      exact r_iret cx wo hr hlk dX4_setGap_12
set_option maxHeartbeats 1000000 in
set_option maxRecDepth 10000 in
theorem mX4_setStrokes (l : Launch) {G : GG} {B : Nat} {a0 : Nat} {x1 : Int32} (h0 : a0 ∈ rivers) {M : Mem} {q : Int32 × Mem} (hf : fX4_setStrokes a0 x1 M = some q) : Met l yX4_setStrokes (wsG yX4_setStrokes cX4_setStrokes 3 (some .int)) (rmN (2)) (PcW Ph G B 205 M [.ref (B + a0), .int x1]) (QcI Ph G B 205 q.1 q.2) 0 0 (fr B) := by
  refine mk_Met (own := RX4) rfl rfl (Nat.le_of_ble_eq_true rfl) ?_
  intro p e s m below meth c ls cx hr hlk wo hl
  have hl : lv_has ls 3 [(0, .ref (B + a0)), (1, .int x1)] := hl
  unfold fX4_setStrokes at hf
  refine lv_iload_n cx.1 cx.2.1 dX4_setStrokes_0 rfl (lv_at hl 1 rfl) ?_
  refine lv_iconst (v := 1) cx.1 cx.2.1 dX4_setStrokes_1 (by decide) ?_
  refine lv_icmp_lt (tgt := 11) cx.1 cx.2.1 dX4_setStrokes_2 (by decide) (fun c1 => ?_) (fun c1 => ?_)
  · rw [if_pos c1] at hf
    refine lv_iconst (v := (-1)) cx.1 cx.2.1 dX4_setStrokes_11 (by decide) ?_
    have hq := Option.some.inj hf
    subst hq
    exact r_iret cx wo hr hlk dX4_setStrokes_12
  · rw [if_neg c1] at hf
    refine lv_iload_n cx.1 cx.2.1 dX4_setStrokes_5 rfl (lv_at hl 1 rfl) ?_
    refine lv_bipush (v := 40) cx.1 cx.2.1 dX4_setStrokes_6 (by decide) ?_
    refine lv_icmp_le (tgt := 13) cx.1 cx.2.1 dX4_setStrokes_8 (by decide) (fun c2 => ?_) (fun c2 => ?_)
    · rw [if_pos c2] at hf
      refine lv_aload_n cx.1 cx.2.1 dX4_setStrokes_13 rfl (lv_at hl 0 rfl) ?_
      refine r_getI cx wo (riv_ok _ h0).1.1 (riv_ok _ h0).1.2.1 (riv_ok _ h0).1.2.2 fiX4_28 dX4_setStrokes_14 ?_
      obtain ⟨y3, e4, hf⟩ := lt_elim hf
      refine r_topi e4 ?_
      refine lv_istore_n (lv' := [(2, .int y3), (0, .ref (B + a0)), (1, .int x1)]) cx.1 cx.2.1 dX4_setStrokes_17 rfl hl (by decide) rfl (fun ls hl => ?_)
      refine lv_aload_n cx.1 cx.2.1 dX4_setStrokes_18 rfl (lv_at hl 1 rfl) ?_
      refine lv_iload_n cx.1 cx.2.1 dX4_setStrokes_19 rfl (lv_at hl 2 rfl) ?_
      obtain ⟨M5, e6, hf⟩ := lt_elim hf
      refine r_putI cx wo (riv_ok _ h0).1.1 (riv_ok _ h0).1.2.1 (riv_ok _ h0).1.2.2 fpX4_28 dX4_setStrokes_20 (fun H locs wo => ?_)
      rw [← e6] at wo
      refine lv_iload_n cx.1 cx.2.1 dX4_setStrokes_23 rfl (lv_at hl 0 rfl) ?_
      refine lv_iload_n cx.1 cx.2.1 dX4_setStrokes_24 rfl (lv_at hl 2 rfl) ?_
      refine lv_icmp_ne (tgt := 33) cx.1 cx.2.1 dX4_setStrokes_25 (by decide) (fun c7 => ?_) (fun c7 => ?_)
      · rw [if_neg c7] at hf
        refine lv_iload_n cx.1 cx.2.1 dX4_setStrokes_33 rfl (lv_at hl 0 rfl) ?_
        have hq := Option.some.inj hf
        subst hq
        exact r_iret cx wo hr hlk dX4_setStrokes_34
      · rw [if_pos c7] at hf
        refine lv_bipush (v := (-2)) cx.1 cx.2.1 dX4_setStrokes_28 (by decide) ?_
        refine lv_goto (tgt := 34) cx.1 cx.2.1 dX4_setStrokes_30 (by decide) ?_
        have hq := Option.some.inj hf
        subst hq
        exact r_iret cx wo hr hlk dX4_setStrokes_34
    · rw [if_neg c2] at hf
      refine lv_iconst (v := (-1)) cx.1 cx.2.1 dX4_setStrokes_11 (by decide) ?_
      have hq := Option.some.inj hf
      subst hq
      exact r_iret cx wo hr hlk dX4_setStrokes_12
set_option maxHeartbeats 1000000 in
set_option maxRecDepth 10000 in
theorem wX4_takeSheet_44 (cx : Cx p s m args c cX4_takeSheet 8 RX4 G) (hr : meth.sig.returnType = none) (hlk : meth.locks = false) {k3 : Nat → Int32 → Int32 → Int32 → Int32 → Int32 → Mem → Option (Mem)} (hk3 : ∀ (a0 : Nat) (x1 : Int32) (x2 : Int32) (x3 : Int32) (x4 : Int32) (x5 : Int32) (h0 : a0 ∈ rivers) (M : Mem) (q : Mem), k3 a0 x1 x2 x3 x4 x5 M = some q → ∀ (H : Heap) (locs : List Loc) (ls : Array Slot), Wo Ph G B 205 s M H locs → lv_has ls 8 [(0, .ref (B + a0)), (1, .int x1), (2, .int x2), (3, .int x3), (4, .int x4), (5, .int x5)] → W p l e (rmN (2)) s m args below meth c H locs 0 0 (MQ below (QcV Ph G B 205 q) args s 0 0 (fr B)) (F0 m 3 ls [])) : ∀ (a0 : Nat) (x1 : Int32) (x2 : Int32) (x3 : Int32) (x4 : Int32) (x5 : Int32) (s0 : Int32) (h0 : a0 ∈ rivers) (M : Mem) (q : Mem), fX4_takeSheet_44 k3 a0 x1 x2 x3 x4 x5 s0 M = some q → ∀ (H : Heap) (locs : List Loc) (ls : Array Slot), Wo Ph G B 205 s M H locs → lv_has ls 8 [(0, .ref (B + a0)), (1, .int x1), (2, .int x2), (3, .int x3), (4, .int x4), (5, .int x5)] → W p l e (rmN (2)) s m args below meth c H locs 0 0 (MQ below (QcV Ph G B 205 q) args s 0 0 (fr B)) (F0 m 44 ls [.int s0]) := by
  intro a0 x1 x2 x3 x4 x5 s0 h0 M q hf H locs ls wo hl
  unfold fX4_takeSheet_44 at hf
  refine lv_istore (lv' := [(7, .int s0), (0, .ref (B + a0)), (1, .int x1), (2, .int x2), (3, .int x3), (4, .int x4), (5, .int x5)]) cx.1 cx.2.1 dX4_takeSheet_44 hl (by decide) rfl (fun ls hl => ?_)
  refine lv_aload_n cx.1 cx.2.1 dX4_takeSheet_46 rfl (lv_at hl 1 rfl) ?_
  refine r_getR cx wo (riv_ok _ h0).1.1 (riv_ok _ h0).1.2.1 (riv_ok _ h0).1.2.2 fiX4_9 (rv_fn1 wo.2.2.2.1 h0) (by omega) dX4_takeSheet_47 ?_
  refine lv_iload cx.1 cx.2.1 dX4_takeSheet_50 (lv_at hl 6 rfl) ?_
  refine lv_iload cx.1 cx.2.1 dX4_takeSheet_52 (lv_at hl 6 rfl) ?_
  refine lv_iload_n cx.1 cx.2.1 dX4_takeSheet_54 rfl (lv_at hl 3 rfl) ?_
  refine lv_icmp_ge (tgt := 72) cx.1 cx.2.1 dX4_takeSheet_55 (by decide) (fun c6 => ?_) (fun c6 => ?_)
  · rw [if_pos c6] at hf
    refine lv_iconst (v := 1) cx.1 cx.2.1 dX4_takeSheet_72 (by decide) ?_
    obtain ⟨g7, hf⟩ := gd_elim hf
    obtain ⟨M8, e9, hf⟩ := lt_elim hf
    refine r_iast cx wo (rvA1 h0).1 (rvA1 h0).2.1 (rvA1 h0).2.2 (by rw [(rvL1 h0)]; exact g7) dX4_takeSheet_73 (fun H locs wo => ?_)
    rw [← e9] at wo
    obtain ⟨y10, e11, hf⟩ := lt_elim hf
    refine lv_iinc (v := y10) (lv' := [(5, .int y10), (7, .int s0), (0, .ref (B + a0)), (1, .int x1), (2, .int x2), (3, .int x3), (4, .int x4)]) cx.1 cx.2.1 dX4_takeSheet_74 hl (k := 6) rfl (by rw [e11]; rfl) (by decide) rfl (fun ls hl => ?_)
    refine lv_goto (tgt := 3) cx.1 cx.2.1 dX4_takeSheet_77 (by decide) ?_
    exact hk3 _ _ _ _ _ _ h0 _ _ hf _ _ _ wo (lv_sub hl [2, 3, 4, 5, 6, 0] rfl)
  · rw [if_neg c6] at hf
    refine lv_iconst (v := 1) cx.1 cx.2.1 dX4_takeSheet_58 (by decide) ?_
    refine lv_bipush (v := 9) cx.1 cx.2.1 dX4_takeSheet_59 (by decide) ?_
    refine lv_iload cx.1 cx.2.1 dX4_takeSheet_61 (lv_at hl 0 rfl) ?_
    refine r_mmin cx hl.1 mmX4_48 (by decide) (Nat.le_of_ble_eq_true rfl) (Nat.zero_le _) (Nat.zero_le _) dX4_takeSheet_63 ?_
    refine r_mmax cx hl.1 mmX4_54 (by decide) (Nat.le_of_ble_eq_true rfl) (Nat.zero_le _) (Nat.zero_le _) dX4_takeSheet_66 ?_
    refine lv_goto (tgt := 73) cx.1 cx.2.1 dX4_takeSheet_69 (by decide) ?_
    obtain ⟨g12, hf⟩ := gd_elim hf
    obtain ⟨M13, e14, hf⟩ := lt_elim hf
    refine r_iast cx wo (rvA1 h0).1 (rvA1 h0).2.1 (rvA1 h0).2.2 (by rw [(rvL1 h0)]; exact g12) dX4_takeSheet_73 (fun H locs wo => ?_)
    rw [← e14] at wo
    obtain ⟨y15, e16, hf⟩ := lt_elim hf
    refine lv_iinc (v := y15) (lv' := [(5, .int y15), (7, .int s0), (0, .ref (B + a0)), (1, .int x1), (2, .int x2), (3, .int x3), (4, .int x4)]) cx.1 cx.2.1 dX4_takeSheet_74 hl (k := 6) rfl (by rw [e16]; rfl) (by decide) rfl (fun ls hl => ?_)
    refine lv_goto (tgt := 3) cx.1 cx.2.1 dX4_takeSheet_77 (by decide) ?_
    exact hk3 _ _ _ _ _ _ h0 _ _ hf _ _ _ wo (lv_sub hl [2, 3, 4, 5, 6, 0] rfl)
set_option maxHeartbeats 1000000 in
set_option maxRecDepth 10000 in
theorem wX4_takeSheet_3 (cx : Cx p s m args c cX4_takeSheet 8 RX4 G) (hr : meth.sig.returnType = none) (hlk : meth.locks = false) : ∀ (n : Nat) (a0 : Nat) (x1 : Int32) (x2 : Int32) (x3 : Int32) (x4 : Int32) (x5 : Int32) (h0 : a0 ∈ rivers) (M : Mem) (q : Mem), fX4_takeSheet_3 n a0 x1 x2 x3 x4 x5 M = some q → ∀ (H : Heap) (locs : List Loc) (ls : Array Slot), Wo Ph G B 205 s M H locs → lv_has ls 8 [(0, .ref (B + a0)), (1, .int x1), (2, .int x2), (3, .int x3), (4, .int x4), (5, .int x5)] → W p l e (rmN (2)) s m args below meth c H locs 0 0 (MQ below (QcV Ph G B 205 q) args s 0 0 (fr B)) (F0 m 3 ls []) := by
  intro n
  induction n with
  | zero =>
    intro a0 x1 x2 x3 x4 x5 h0 M q hf H locs ls wo hl
    have hf : none = some q := hf
    cases hf
  | succ n ih =>
    intro a0 x1 x2 x3 x4 x5 h0 M q hf H locs ls wo hl
    rw [fX4_takeSheet_3] at hf
    refine lv_iload cx.1 cx.2.1 dX4_takeSheet_3 (lv_at hl 5 rfl) ?_
    refine lv_aload_n cx.1 cx.2.1 dX4_takeSheet_5 rfl (lv_at hl 0 rfl) ?_
    refine r_getI cx wo (riv_ok _ h0).1.1 (riv_ok _ h0).1.2.1 (riv_ok _ h0).1.2.2 fiX4_31 dX4_takeSheet_6 ?_
    refine lv_icmp_ge (tgt := 80) cx.1 cx.2.1 dX4_takeSheet_9 (by decide) (fun c1 => ?_) (fun c1 => ?_)
    · rw [if_pos c1] at hf
      have hq := Option.some.inj hf
      subst hq
      exact r_vret cx wo hr hlk dX4_takeSheet_80
    · rw [if_neg c1] at hf
      refine lv_iload_n cx.1 cx.2.1 dX4_takeSheet_12 rfl (lv_at hl 3 rfl) ?_
      refine lv_iload cx.1 cx.2.1 dX4_takeSheet_13 (lv_at hl 5 rfl) ?_
      refine lv_iload cx.1 cx.2.1 dX4_takeSheet_15 (lv_at hl 4 rfl) ?_
      refine lv_imul cx.1 cx.2.1 dX4_takeSheet_17 ?_
      refine lv_iadd cx.1 cx.2.1 dX4_takeSheet_18 ?_
      obtain ⟨y2, e3, hf⟩ := lt_elim hf
      refine r_topi e3 ?_
      refine lv_istore (lv' := [(6, .int y2), (0, .ref (B + a0)), (1, .int x1), (2, .int x2), (3, .int x3), (4, .int x4), (5, .int x5)]) cx.1 cx.2.1 dX4_takeSheet_19 hl (by decide) rfl (fun ls hl => ?_)
      refine lv_iload_n cx.1 cx.2.1 dX4_takeSheet_21 rfl (lv_at hl 2 rfl) ?_
      refine lv_if_ne (tgt := 31) cx.1 cx.2.1 dX4_takeSheet_22 (by decide) (fun c4 => ?_) (fun c4 => ?_)
      · rw [if_neg c4] at hf
        refine lv_iload_n cx.1 cx.2.1 dX4_takeSheet_31 rfl (lv_at hl 2 rfl) ?_
        refine lv_iconst (v := 1) cx.1 cx.2.1 dX4_takeSheet_32 (by decide) ?_
        refine lv_icmp_ne (tgt := 42) cx.1 cx.2.1 dX4_takeSheet_33 (by decide) (fun c5 => ?_) (fun c5 => ?_)
        · rw [if_neg c5] at hf
          refine lv_iload cx.1 cx.2.1 dX4_takeSheet_42 (lv_at hl 0 rfl) ?_
          exact wX4_takeSheet_44 cx hr hlk ih _ _ _ _ _ _ _ h0 _ _ hf _ _ _ wo (lv_sub hl [1, 2, 3, 4, 5, 6] rfl)
        · rw [if_pos c5] at hf
          refine lv_iload cx.1 cx.2.1 dX4_takeSheet_36 (lv_at hl 0 rfl) ?_
          refine lv_i2s (v := y2.toInt16.toInt32) cx.1 cx.2.1 dX4_takeSheet_38 rfl ?_
          refine lv_goto (tgt := 44) cx.1 cx.2.1 dX4_takeSheet_39 (by decide) ?_
          exact wX4_takeSheet_44 cx hr hlk ih _ _ _ _ _ _ _ h0 _ _ hf _ _ _ wo (lv_sub hl [1, 2, 3, 4, 5, 6] rfl)
      · rw [if_pos c4] at hf
        refine lv_iload cx.1 cx.2.1 dX4_takeSheet_25 (lv_at hl 0 rfl) ?_
        refine lv_i2b (v := y2.toInt8.toInt32) cx.1 cx.2.1 dX4_takeSheet_27 rfl ?_
        refine lv_goto (tgt := 44) cx.1 cx.2.1 dX4_takeSheet_28 (by decide) ?_
        exact wX4_takeSheet_44 cx hr hlk ih _ _ _ _ _ _ _ h0 _ _ hf _ _ _ wo (lv_sub hl [1, 2, 3, 4, 5, 6] rfl)
set_option maxHeartbeats 1000000 in
set_option maxRecDepth 10000 in
theorem mX4_takeSheet (l : Launch) {G : GG} {B : Nat} {a0 : Nat} {x1 : Int32} {x2 : Int32} {x3 : Int32} {x4 : Int32} (h0 : a0 ∈ rivers) {M : Mem} {q : Mem} (hf : fX4_takeSheet a0 x1 x2 x3 x4 M = some q) : Met l yX4_takeSheet (wsG yX4_takeSheet cX4_takeSheet 8 none) (rmN (2)) (PcW Ph G B 205 M [.ref (B + a0), .int x1, .int x2, .int x3, .int x4]) (QcV Ph G B 205 q) 0 0 (fr B) := by
  refine mk_Met (own := RX4) rfl rfl (Nat.le_of_ble_eq_true rfl) ?_
  intro p e s m below meth c ls cx hr hlk wo hl
  have hl : lv_has ls 8 [(0, .ref (B + a0)), (1, .int x1), (2, .int x2), (3, .int x3), (4, .int x4)] := hl
  unfold fX4_takeSheet at hf
  refine lv_iconst (v := 0) cx.1 cx.2.1 dX4_takeSheet_0 (by decide) ?_
  refine lv_istore (lv' := [(5, .int 0), (0, .ref (B + a0)), (1, .int x1), (2, .int x2), (3, .int x3), (4, .int x4)]) cx.1 cx.2.1 dX4_takeSheet_1 hl (by decide) rfl (fun ls hl => ?_)
  exact wX4_takeSheet_3 cx hr hlk _ _ _ _ _ _ _ h0 _ _ hf _ _ _ wo (lv_sub hl [1, 2, 3, 4, 5, 0] rfl)
set_option maxHeartbeats 1000000 in
set_option maxRecDepth 10000 in
theorem wX4_sumOfPaces_4 (cx : Cx p s m args c cX4_sumOfPaces 3 RX4 G) (hr : meth.sig.returnType = (some .int)) (hlk : meth.locks = false) : ∀ (n : Nat) (a0 : Nat) (x1 : Int32) (x2 : Int32) (h0 : a0 ∈ rivers) (M : Mem) (q : Int32 × Mem), fX4_sumOfPaces_4 n a0 x1 x2 M = some q → ∀ (H : Heap) (locs : List Loc) (ls : Array Slot), Wo Ph G B 205 s M H locs → lv_has ls 3 [(0, .ref (B + a0)), (1, .int x1), (2, .int x2)] → W p l e (rmN (2)) s m args below meth c H locs 0 0 (MQ below (QcI Ph G B 205 q.1 q.2) args s 0 0 (fr B)) (F0 m 4 ls []) := by
  intro n
  induction n with
  | zero =>
    intro a0 x1 x2 h0 M q hf H locs ls wo hl
    have hf : none = some q := hf
    cases hf
  | succ n ih =>
    intro a0 x1 x2 h0 M q hf H locs ls wo hl
    rw [fX4_sumOfPaces_4] at hf
    refine lv_iload_n cx.1 cx.2.1 dX4_sumOfPaces_4 rfl (lv_at hl 2 rfl) ?_
    refine lv_aload_n cx.1 cx.2.1 dX4_sumOfPaces_5 rfl (lv_at hl 0 rfl) ?_
    refine r_getI cx wo (riv_ok _ h0).1.1 (riv_ok _ h0).1.2.1 (riv_ok _ h0).1.2.2 fiX4_31 dX4_sumOfPaces_6 ?_
    refine lv_icmp_ge (tgt := 27) cx.1 cx.2.1 dX4_sumOfPaces_9 (by decide) (fun c1 => ?_) (fun c1 => ?_)
    · rw [if_pos c1] at hf
      refine lv_iload_n cx.1 cx.2.1 dX4_sumOfPaces_27 rfl (lv_at hl 1 rfl) ?_
      have hq := Option.some.inj hf
      subst hq
      exact r_iret cx wo hr hlk dX4_sumOfPaces_28
    · rw [if_neg c1] at hf
      refine lv_iload_n cx.1 cx.2.1 dX4_sumOfPaces_12 rfl (lv_at hl 1 rfl) ?_
      refine lv_aload_n cx.1 cx.2.1 dX4_sumOfPaces_13 rfl (lv_at hl 0 rfl) ?_
      refine r_getR cx wo (riv_ok _ h0).1.1 (riv_ok _ h0).1.2.1 (riv_ok _ h0).1.2.2 fiX4_9 (rv_fn1 wo.2.2.2.1 h0) (by omega) dX4_sumOfPaces_14 ?_
      refine lv_iload_n cx.1 cx.2.1 dX4_sumOfPaces_17 rfl (lv_at hl 2 rfl) ?_
      obtain ⟨g2, hf⟩ := gd_elim hf
      refine r_iald cx wo (rvA1 h0).1 (rvA1 h0).2.1 (rvA1 h0).2.2 (by rw [(rvL1 h0)]; exact g2) dX4_sumOfPaces_18 ?_
      refine lv_iadd cx.1 cx.2.1 dX4_sumOfPaces_19 ?_
      obtain ⟨y3, e4, hf⟩ := lt_elim hf
      refine r_topi e4 ?_
      refine lv_istore_n (lv' := [(1, .int y3), (0, .ref (B + a0)), (2, .int x2)]) cx.1 cx.2.1 dX4_sumOfPaces_20 rfl hl (by decide) rfl (fun ls hl => ?_)
      obtain ⟨y5, e6, hf⟩ := lt_elim hf
      refine lv_iinc (v := y5) (lv' := [(2, .int y5), (1, .int y3), (0, .ref (B + a0))]) cx.1 cx.2.1 dX4_sumOfPaces_21 hl (k := 2) rfl (by rw [e6]; rfl) (by decide) rfl (fun ls hl => ?_)
      refine lv_goto (tgt := 4) cx.1 cx.2.1 dX4_sumOfPaces_24 (by decide) ?_
      exact ih _ _ _ h0 _ _ hf _ _ _ wo (lv_sub hl [2, 1, 0] rfl)
set_option maxHeartbeats 1000000 in
set_option maxRecDepth 10000 in
theorem mX4_sumOfPaces (l : Launch) {G : GG} {B : Nat} {a0 : Nat} (h0 : a0 ∈ rivers) {M : Mem} {q : Int32 × Mem} (hf : fX4_sumOfPaces a0 M = some q) : Met l yX4_sumOfPaces (wsG yX4_sumOfPaces cX4_sumOfPaces 3 (some .int)) (rmN (2)) (PcW Ph G B 205 M [.ref (B + a0)]) (QcI Ph G B 205 q.1 q.2) 0 0 (fr B) := by
  refine mk_Met (own := RX4) rfl rfl (Nat.le_of_ble_eq_true rfl) ?_
  intro p e s m below meth c ls cx hr hlk wo hl
  have hl : lv_has ls 3 [(0, .ref (B + a0))] := hl
  unfold fX4_sumOfPaces at hf
  refine lv_iconst (v := 0) cx.1 cx.2.1 dX4_sumOfPaces_0 (by decide) ?_
  refine lv_istore_n (lv' := [(1, .int 0), (0, .ref (B + a0))]) cx.1 cx.2.1 dX4_sumOfPaces_1 rfl hl (by decide) rfl (fun ls hl => ?_)
  refine lv_iconst (v := 0) cx.1 cx.2.1 dX4_sumOfPaces_2 (by decide) ?_
  refine lv_istore_n (lv' := [(2, .int 0), (1, .int 0), (0, .ref (B + a0))]) cx.1 cx.2.1 dX4_sumOfPaces_3 rfl hl (by decide) rfl (fun ls hl => ?_)
  exact wX4_sumOfPaces_4 cx hr hlk _ _ _ _ h0 _ _ hf _ _ _ wo (lv_sub hl [2, 1, 0] rfl)
set_option maxHeartbeats 1000000 in
set_option maxRecDepth 10000 in
theorem wX4_sumOfTired_4 (cx : Cx p s m args c cX4_sumOfTired 3 RX4 G) (hr : meth.sig.returnType = (some .int)) (hlk : meth.locks = false) : ∀ (n : Nat) (a0 : Nat) (x1 : Int32) (x2 : Int32) (h0 : a0 ∈ rivers) (M : Mem) (q : Int32 × Mem), fX4_sumOfTired_4 n a0 x1 x2 M = some q → ∀ (H : Heap) (locs : List Loc) (ls : Array Slot), Wo Ph G B 205 s M H locs → lv_has ls 3 [(0, .ref (B + a0)), (1, .int x1), (2, .int x2)] → W p l e (rmN (2)) s m args below meth c H locs 0 0 (MQ below (QcI Ph G B 205 q.1 q.2) args s 0 0 (fr B)) (F0 m 4 ls []) := by
  intro n
  induction n with
  | zero =>
    intro a0 x1 x2 h0 M q hf H locs ls wo hl
    have hf : none = some q := hf
    cases hf
  | succ n ih =>
    intro a0 x1 x2 h0 M q hf H locs ls wo hl
    rw [fX4_sumOfTired_4] at hf
    refine lv_iload_n cx.1 cx.2.1 dX4_sumOfTired_4 rfl (lv_at hl 2 rfl) ?_
    refine lv_aload_n cx.1 cx.2.1 dX4_sumOfTired_5 rfl (lv_at hl 0 rfl) ?_
    refine r_getI cx wo (riv_ok _ h0).1.1 (riv_ok _ h0).1.2.1 (riv_ok _ h0).1.2.2 fiX4_31 dX4_sumOfTired_6 ?_
    refine lv_icmp_ge (tgt := 27) cx.1 cx.2.1 dX4_sumOfTired_9 (by decide) (fun c1 => ?_) (fun c1 => ?_)
    · rw [if_pos c1] at hf
      refine lv_iload_n cx.1 cx.2.1 dX4_sumOfTired_27 rfl (lv_at hl 1 rfl) ?_
      have hq := Option.some.inj hf
      subst hq
      exact r_iret cx wo hr hlk dX4_sumOfTired_28
    · rw [if_neg c1] at hf
      refine lv_iload_n cx.1 cx.2.1 dX4_sumOfTired_12 rfl (lv_at hl 1 rfl) ?_
      refine lv_aload_n cx.1 cx.2.1 dX4_sumOfTired_13 rfl (lv_at hl 0 rfl) ?_
      refine r_getR cx wo (riv_ok _ h0).1.1 (riv_ok _ h0).1.2.1 (riv_ok _ h0).1.2.2 fiX4_15 (rv_fn2 wo.2.2.2.1 h0) (by omega) dX4_sumOfTired_14 ?_
      refine lv_iload_n cx.1 cx.2.1 dX4_sumOfTired_17 rfl (lv_at hl 2 rfl) ?_
      obtain ⟨g2, hf⟩ := gd_elim hf
      refine r_iald cx wo (rvA2 h0).1 (rvA2 h0).2.1 (rvA2 h0).2.2 (by rw [(rvL2 h0)]; exact g2) dX4_sumOfTired_18 ?_
      refine lv_iadd cx.1 cx.2.1 dX4_sumOfTired_19 ?_
      obtain ⟨y3, e4, hf⟩ := lt_elim hf
      refine r_topi e4 ?_
      refine lv_istore_n (lv' := [(1, .int y3), (0, .ref (B + a0)), (2, .int x2)]) cx.1 cx.2.1 dX4_sumOfTired_20 rfl hl (by decide) rfl (fun ls hl => ?_)
      obtain ⟨y5, e6, hf⟩ := lt_elim hf
      refine lv_iinc (v := y5) (lv' := [(2, .int y5), (1, .int y3), (0, .ref (B + a0))]) cx.1 cx.2.1 dX4_sumOfTired_21 hl (k := 2) rfl (by rw [e6]; rfl) (by decide) rfl (fun ls hl => ?_)
      refine lv_goto (tgt := 4) cx.1 cx.2.1 dX4_sumOfTired_24 (by decide) ?_
      exact ih _ _ _ h0 _ _ hf _ _ _ wo (lv_sub hl [2, 1, 0] rfl)
set_option maxHeartbeats 1000000 in
set_option maxRecDepth 10000 in
theorem mX4_sumOfTired (l : Launch) {G : GG} {B : Nat} {a0 : Nat} (h0 : a0 ∈ rivers) {M : Mem} {q : Int32 × Mem} (hf : fX4_sumOfTired a0 M = some q) : Met l yX4_sumOfTired (wsG yX4_sumOfTired cX4_sumOfTired 3 (some .int)) (rmN (2)) (PcW Ph G B 205 M [.ref (B + a0)]) (QcI Ph G B 205 q.1 q.2) 0 0 (fr B) := by
  refine mk_Met (own := RX4) rfl rfl (Nat.le_of_ble_eq_true rfl) ?_
  intro p e s m below meth c ls cx hr hlk wo hl
  have hl : lv_has ls 3 [(0, .ref (B + a0))] := hl
  unfold fX4_sumOfTired at hf
  refine lv_iconst (v := 0) cx.1 cx.2.1 dX4_sumOfTired_0 (by decide) ?_
  refine lv_istore_n (lv' := [(1, .int 0), (0, .ref (B + a0))]) cx.1 cx.2.1 dX4_sumOfTired_1 rfl hl (by decide) rfl (fun ls hl => ?_)
  refine lv_iconst (v := 0) cx.1 cx.2.1 dX4_sumOfTired_2 (by decide) ?_
  refine lv_istore_n (lv' := [(2, .int 0), (1, .int 0), (0, .ref (B + a0))]) cx.1 cx.2.1 dX4_sumOfTired_3 rfl hl (by decide) rfl (fun ls hl => ?_)
  exact wX4_sumOfTired_4 cx hr hlk _ _ _ _ h0 _ _ hf _ _ _ wo (lv_sub hl [2, 1, 0] rfl)
end Walk
