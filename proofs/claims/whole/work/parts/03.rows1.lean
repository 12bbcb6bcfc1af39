theorem dX2_putForKinds_6 : decode cX2_putForKinds 6 = .ok (.iload_n 2, 1) := by decide +kernel
theorem dX2_putForKinds_7 : decode cX2_putForKinds 7 = .ok (.iload_n 3, 1) := by decide +kernel
theorem dX2_putForKinds_8 : decode cX2_putForKinds 8 = .ok (.iastore, 1) := by decide +kernel
theorem dX2_putForKinds_9 : decode cX2_putForKinds 9 = .ok (.aload_n 0, 1) := by decide +kernel
theorem dX2_putForKinds_10 : decode cX2_putForKinds 10 = .ok (.getfield 11, 3) := by decide +kernel
theorem dX2_putForKinds_13 : decode cX2_putForKinds 13 = .ok (.iload_n 2, 1) := by decide +kernel
theorem dX2_putForKinds_14 : decode cX2_putForKinds 14 = .ok (.aaload, 1) := by decide +kernel
theorem dX2_putForKinds_15 : decode cX2_putForKinds 15 = .ok (.iload_n 1, 1) := by decide +kernel
theorem dX2_putForKinds_16 : decode cX2_putForKinds 16 = .ok (.iload_n 3, 1) := by decide +kernel
theorem dX2_putForKinds_17 : decode cX2_putForKinds 17 = .ok (.iastore, 1) := by decide +kernel
theorem dX2_putForKinds_18 : decode cX2_putForKinds 18 = .ok (.return_, 1) := by decide +kernel
theorem dX2_putGapCosts_0 : decode cX2_putGapCosts 0 = .ok (.aload_n 0, 1) := by decide +kernel
theorem dX2_putGapCosts_1 : decode cX2_putGapCosts 1 = .ok (.iload_n 1, 1) := by decide +kernel
theorem dX2_putGapCosts_2 : decode cX2_putGapCosts 2 = .ok (.putfield 16, 3) := by decide +kernel
theorem dX2_putGapCosts_5 : decode cX2_putGapCosts 5 = .ok (.aload_n 0, 1) := by decide +kernel
theorem dX2_putGapCosts_6 : decode cX2_putGapCosts 6 = .ok (.iload_n 2, 1) := by decide +kernel
theorem dX2_putGapCosts_7 : decode cX2_putGapCosts 7 = .ok (.putfield 20, 3) := by decide +kernel
theorem dX2_putGapCosts_10 : decode cX2_putGapCosts 10 = .ok (.return_, 1) := by decide +kernel
theorem dX2_openingCost_0 : decode cX2_openingCost 0 = .ok (.aload_n 0, 1) := by decide +kernel
theorem dX2_openingCost_1 : decode cX2_openingCost 1 = .ok (.getfield 16, 3) := by decide +kernel
theorem dX2_openingCost_4 : decode cX2_openingCost 4 = .ok (.ireturn, 1) := by decide +kernel
theorem dX2_extensionCost_0 : decode cX2_extensionCost 0 = .ok (.aload_n 0, 1) := by decide +kernel
theorem dX2_extensionCost_1 : decode cX2_extensionCost 1 = .ok (.getfield 20, 3) := by decide +kernel
theorem dX2_extensionCost_4 : decode cX2_extensionCost 4 = .ok (.ireturn, 1) := by decide +kernel
theorem dX2_costOfGap_0 : decode cX2_costOfGap 0 = .ok (.iload_n 1, 1) := by decide +kernel
theorem dX2_costOfGap_1 : decode cX2_costOfGap 1 = .ok (.ifCond .ne 7, 3) := by decide +kernel
theorem dX2_costOfGap_4 : decode cX2_costOfGap 4 = .ok (.iconst 0, 1) := by decide +kernel
theorem dX2_costOfGap_5 : decode cX2_costOfGap 5 = .ok (.goto 14, 3) := by decide +kernel
theorem dX2_costOfGap_8 : decode cX2_costOfGap 8 = .ok (.aload_n 0, 1) := by decide +kernel
theorem dX2_costOfGap_9 : decode cX2_costOfGap 9 = .ok (.getfield 16, 3) := by decide +kernel
theorem dX2_costOfGap_12 : decode cX2_costOfGap 12 = .ok (.iload_n 1, 1) := by decide +kernel
theorem dX2_costOfGap_13 : decode cX2_costOfGap 13 = .ok (.aload_n 0, 1) := by decide +kernel
theorem dX2_costOfGap_14 : decode cX2_costOfGap 14 = .ok (.getfield 20, 3) := by decide +kernel
theorem dX2_costOfGap_17 : decode cX2_costOfGap 17 = .ok (.imul, 1) := by decide +kernel
theorem dX2_costOfGap_18 : decode cX2_costOfGap 18 = .ok (.iadd, 1) := by decide +kernel
theorem dX2_costOfGap_19 : decode cX2_costOfGap 19 = .ok (.ireturn, 1) := by decide +kernel
theorem dX3_init_0 : decode cX3_init 0 = .ok (.aload_n 0, 1) := by decide +kernel
theorem dX3_init_1 : decode cX3_init 1 = .ok (.invokespecial 3, 3) := by decide +kernel
theorem dX3_init_4 : decode cX3_init 4 = .ok (.aload_n 0, 1) := by decide +kernel
theorem dX3_init_5 : decode cX3_init 5 = .ok (.sipush 450, 3) := by decide +kernel
theorem dX3_init_8 : decode cX3_init 8 = .ok (.newarray .int, 2) := by decide +kernel
theorem dX3_init_10 : decode cX3_init 10 = .ok (.putfield 9, 3) := by decide +kernel
theorem dX3_init_13 : decode cX3_init 13 = .ok (.aload_n 0, 1) := by decide +kernel
theorem dX3_init_14 : decode cX3_init 14 = .ok (.iconst 0, 1) := by decide +kernel
theorem dX3_init_15 : decode cX3_init 15 = .ok (.putfield 15, 3) := by decide +kernel
theorem dX3_init_18 : decode cX3_init 18 = .ok (.aload_n 0, 1) := by decide +kernel
theorem dX3_init_19 : decode cX3_init 19 = .ok (.sipush 151, 3) := by decide +kernel
theorem dX3_init_22 : decode cX3_init 22 = .ok (.sipush 301, 3) := by decide +kernel
theorem dX3_init_25 : decode cX3_init 25 = .ok (.multianewarray 19 2, 4) := by decide +kernel
theorem dX3_init_29 : decode cX3_init 29 = .ok (.putfield 21, 3) := by decide +kernel
theorem dX3_init_32 : decode cX3_init 32 = .ok (.return_, 1) := by decide +kernel
theorem dX3_length_0 : decode cX3_length 0 = .ok (.aload_n 0, 1) := by decide +kernel
theorem dX3_length_1 : decode cX3_length 1 = .ok (.getfield 15, 3) := by decide +kernel
theorem dX3_length_4 : decode cX3_length 4 = .ok (.ireturn, 1) := by decide +kernel
theorem dX3_stepAt_0 : decode cX3_stepAt 0 = .ok (.aload_n 0, 1) := by decide +kernel
theorem dX3_stepAt_1 : decode cX3_stepAt 1 = .ok (.getfield 9, 3) := by decide +kernel
theorem dX3_stepAt_4 : decode cX3_stepAt 4 = .ok (.iload_n 1, 1) := by decide +kernel
theorem dX3_stepAt_5 : decode cX3_stepAt 5 = .ok (.iaload, 1) := by decide +kernel
theorem dX3_stepAt_6 : decode cX3_stepAt 6 = .ok (.ireturn, 1) := by decide +kernel
set_option maxRecDepth 20000 in
theorem ggX3_write_X3_measureRests : GoodIn wsX3_write wsX3_measureRests := goodIn_r _ [7, 8, 9, 10, 11, 12, 13, 14, 15, 16, 17, 18, 19, 20, 6, 21, 22, 23, 24, 25, 26, 31, 32, 33, 34, 35] (by decide +kernel) (by decide +kernel)
set_option maxRecDepth 20000 in
theorem gX3_write_X3_measureRests : GoodIn wsX3_write (wsV RX3 24 RX3 yX3_measureRests wsX3_measureRests) := goodIn_app (goodIn_of _ (by decide +kernel)) ggX3_write_X3_measureRests
set_option maxRecDepth 20000 in
theorem ggX3_write_X4_size : GoodIn wsX3_write wsX4_size := goodIn_r _ [17, 18, 34, 35] (by decide +kernel) (by decide +kernel)
set_option maxRecDepth 20000 in
theorem gX3_write_X4_size : GoodIn wsX3_write (wsV RX3 28 RX4 yX4_size wsX4_size) := goodIn_app (goodIn_of _ (by decide +kernel)) ggX3_write_X4_size
set_option maxRecDepth 20000 in
theorem ggX3_write_X3_nextStep : GoodIn wsX3_write wsX3_nextStep := goodIn_r _ [30, 8, 13, 14, 15, 16, 17, 18, 19, 20, 6, 21, 22, 23, 24, 25, 26, 31, 32, 33, 34, 35] (by decide +kernel) (by decide +kernel)
set_option maxRecDepth 20000 in
theorem gX3_write_X3_nextStep : GoodIn wsX3_write (wsV RX3 34 RX3 yX3_nextStep wsX3_nextStep) := goodIn_app (goodIn_of _ (by decide +kernel)) ggX3_write_X3_nextStep
theorem dX3_write_0 : decode cX3_write 0 = .ok (.aload_n 0, 1) := by decide +kernel
theorem dX3_write_1 : decode cX3_write 1 = .ok (.aload_n 1, 1) := by decide +kernel
theorem dX3_write_2 : decode cX3_write 2 = .ok (.aload_n 2, 1) := by decide +kernel
theorem dX3_write_3 : decode cX3_write 3 = .ok (.iload_n 3, 1) := by decide +kernel
theorem dX3_write_4 : decode cX3_write 4 = .ok (.iload 4, 2) := by decide +kernel
theorem dX3_write_6 : decode cX3_write 6 = .ok (.invokevirtual 24, 3) := by decide +kernel
theorem dX3_write_9 : decode cX3_write 9 = .ok (.aload_n 0, 1) := by decide +kernel
theorem dX3_write_10 : decode cX3_write 10 = .ok (.iconst 0, 1) := by decide +kernel
theorem dX3_write_11 : decode cX3_write 11 = .ok (.putfield 15, 3) := by decide +kernel
theorem dX3_write_14 : decode cX3_write 14 = .ok (.iconst 0, 1) := by decide +kernel
theorem dX3_write_15 : decode cX3_write 15 = .ok (.istore 5, 2) := by decide +kernel
theorem dX3_write_17 : decode cX3_write 17 = .ok (.iload_n 3, 1) := by decide +kernel
theorem dX3_write_18 : decode cX3_write 18 = .ok (.istore 6, 2) := by decide +kernel
theorem dX3_write_20 : decode cX3_write 20 = .ok (.iconst 0, 1) := by decide +kernel
theorem dX3_write_21 : decode cX3_write 21 = .ok (.istore 7, 2) := by decide +kernel
theorem dX3_write_23 : decode cX3_write 23 = .ok (.iload 7, 2) := by decide +kernel
theorem dX3_write_25 : decode cX3_write 25 = .ok (.sipush 450, 3) := by decide +kernel
theorem dX3_write_28 : decode cX3_write 28 = .ok (.if_icmp .ge 90, 3) := by decide +kernel
theorem dX3_write_31 : decode cX3_write 31 = .ok (.iload 5, 2) := by decide +kernel
theorem dX3_write_33 : decode cX3_write 33 = .ok (.aload_n 1, 1) := by decide +kernel
theorem dX3_write_34 : decode cX3_write 34 = .ok (.invokevirtual 28, 3) := by decide +kernel
theorem dX3_write_37 : decode cX3_write 37 = .ok (.if_icmp .lt 10, 3) := by decide +kernel
theorem dX3_write_40 : decode cX3_write 40 = .ok (.iload 6, 2) := by decide +kernel
theorem dX3_write_42 : decode cX3_write 42 = .ok (.iload 4, 2) := by decide +kernel
theorem dX3_write_44 : decode cX3_write 44 = .ok (.if_icmp .ge 74, 3) := by decide +kernel
theorem dX3_write_47 : decode cX3_write 47 = .ok (.aload_n 0, 1) := by decide +kernel
theorem dX3_write_48 : decode cX3_write 48 = .ok (.aload_n 1, 1) := by decide +kernel
theorem dX3_write_49 : decode cX3_write 49 = .ok (.aload_n 2, 1) := by decide +kernel
theorem dX3_write_50 : decode cX3_write 50 = .ok (.iload 5, 2) := by decide +kernel
theorem dX3_write_52 : decode cX3_write 52 = .ok (.iload 6, 2) := by decide +kernel
theorem dX3_write_54 : decode cX3_write 54 = .ok (.iload 4, 2) := by decide +kernel
theorem dX3_write_56 : decode cX3_write 56 = .ok (.invokevirtual 34, 3) := by decide +kernel
theorem dX3_write_59 : decode cX3_write 59 = .ok (.istore 8, 2) := by decide +kernel
theorem dX3_write_61 : decode cX3_write 61 = .ok (.aload_n 0, 1) := by decide +kernel
theorem dX3_write_62 : decode cX3_write 62 = .ok (.getfield 9, 3) := by decide +kernel
theorem dX3_write_65 : decode cX3_write 65 = .ok (.iload 7, 2) := by decide +kernel
theorem dX3_write_67 : decode cX3_write 67 = .ok (.iload 8, 2) := by decide +kernel
theorem dX3_write_69 : decode cX3_write 69 = .ok (.iastore, 1) := by decide +kernel
theorem dX3_write_70 : decode cX3_write 70 = .ok (.aload_n 0, 1) := by decide +kernel
theorem dX3_write_71 : decode cX3_write 71 = .ok (.dup, 1) := by decide +kernel
theorem dX3_write_72 : decode cX3_write 72 = .ok (.getfield 15, 3) := by decide +kernel
theorem dX3_write_75 : decode cX3_write 75 = .ok (.iconst 1, 1) := by decide +kernel
theorem dX3_write_76 : decode cX3_write 76 = .ok (.iadd, 1) := by decide +kernel
theorem dX3_write_77 : decode cX3_write 77 = .ok (.putfield 15, 3) := by decide +kernel
theorem dX3_write_80 : decode cX3_write 80 = .ok (.iload 5, 2) := by decide +kernel
theorem dX3_write_82 : decode cX3_write 82 = .ok (.iload 8, 2) := by decide +kernel
theorem dX3_write_84 : decode cX3_write 84 = .ok (.iconst 3, 1) := by decide +kernel
theorem dX3_write_85 : decode cX3_write 85 = .ok (.if_icmp .ne 7, 3) := by decide +kernel
theorem dX3_write_88 : decode cX3_write 88 = .ok (.iconst 0, 1) := by decide +kernel
theorem dX3_write_89 : decode cX3_write 89 = .ok (.goto 4, 3) := by decide +kernel
theorem dX3_write_92 : decode cX3_write 92 = .ok (.iconst 1, 1) := by decide +kernel
theorem dX3_write_93 : decode cX3_write 93 = .ok (.iadd, 1) := by decide +kernel
theorem dX3_write_94 : decode cX3_write 94 = .ok (.istore 5, 2) := by decide +kernel
theorem dX3_write_96 : decode cX3_write 96 = .ok (.iload 6, 2) := by decide +kernel
theorem dX3_write_98 : decode cX3_write 98 = .ok (.iload 8, 2) := by decide +kernel
theorem dX3_write_100 : decode cX3_write 100 = .ok (.iconst 2, 1) := by decide +kernel
theorem dX3_write_101 : decode cX3_write 101 = .ok (.if_icmp .ne 7, 3) := by decide +kernel
theorem dX3_write_104 : decode cX3_write 104 = .ok (.iconst 0, 1) := by decide +kernel
theorem dX3_write_105 : decode cX3_write 105 = .ok (.goto 4, 3) := by decide +kernel
theorem dX3_write_108 : decode cX3_write 108 = .ok (.iconst 1, 1) := by decide +kernel
theorem dX3_write_109 : decode cX3_write 109 = .ok (.iadd, 1) := by decide +kernel
theorem dX3_write_110 : decode cX3_write 110 = .ok (.istore 6, 2) := by decide +kernel
theorem dX3_write_112 : decode cX3_write 112 = .ok (.iinc 7 1, 3) := by decide +kernel
theorem dX3_write_115 : decode cX3_write 115 = .ok (.goto (-92), 3) := by decide +kernel
theorem dX3_write_118 : decode cX3_write 118 = .ok (.return_, 1) := by decide +kernel
set_option maxRecDepth 20000 in
theorem ggX3_measureRests_X4_size : GoodIn wsX3_measureRests wsX4_size := goodIn_r _ [10, 11, 24, 25] (by decide +kernel) (by decide +kernel)
set_option maxRecDepth 20000 in
theorem gX3_measureRests_X4_size : GoodIn wsX3_measureRests (wsV RX3 28 RX4 yX4_size wsX4_size) := goodIn_app (goodIn_of _ (by decide +kernel)) ggX3_measureRests_X4_size
set_option maxRecDepth 20000 in
theorem ggX3_measureRests_X3_changeAt : GoodIn wsX3_measureRests wsX3_changeAt := goodIn_r _ [15, 16, 17, 18, 9, 19, 20, 24, 25] (by decide +kernel) (by decide +kernel)
set_option maxRecDepth 20000 in
theorem gX3_measureRests_X3_changeAt : GoodIn wsX3_measureRests (va_wsS RX3 38 yX3_changeAt wsX3_changeAt) := goodIn_app (goodIn_of _ (by decide +kernel)) ggX3_measureRests_X3_changeAt
theorem dX3_measureRests_0 : decode cX3_measureRests 0 = .ok (.iload_n 3, 1) := by decide +kernel
theorem dX3_measureRests_1 : decode cX3_measureRests 1 = .ok (.istore 5, 2) := by decide +kernel
theorem dX3_measureRests_3 : decode cX3_measureRests 3 = .ok (.iload 5, 2) := by decide +kernel
theorem dX3_measureRests_5 : decode cX3_measureRests 5 = .ok (.iload 4, 2) := by decide +kernel
theorem dX3_measureRests_7 : decode cX3_measureRests 7 = .ok (.if_icmp .gt 26, 3) := by decide +kernel
theorem dX3_measureRests_10 : decode cX3_measureRests 10 = .ok (.aload_n 0, 1) := by decide +kernel
theorem dX3_measureRests_11 : decode cX3_measureRests 11 = .ok (.getfield 21, 3) := by decide +kernel
theorem dX3_measureRests_14 : decode cX3_measureRests 14 = .ok (.aload_n 1, 1) := by decide +kernel
theorem dX3_measureRests_15 : decode cX3_measureRests 15 = .ok (.invokevirtual 28, 3) := by decide +kernel
theorem dX3_measureRests_18 : decode cX3_measureRests 18 = .ok (.aaload, 1) := by decide +kernel
theorem dX3_measureRests_19 : decode cX3_measureRests 19 = .ok (.iload 5, 2) := by decide +kernel
theorem dX3_measureRests_21 : decode cX3_measureRests 21 = .ok (.iload 4, 2) := by decide +kernel
theorem dX3_measureRests_23 : decode cX3_measureRests 23 = .ok (.iload 5, 2) := by decide +kernel
theorem dX3_measureRests_25 : decode cX3_measureRests 25 = .ok (.isub, 1) := by decide +kernel
theorem dX3_measureRests_26 : decode cX3_measureRests 26 = .ok (.iastore, 1) := by decide +kernel
theorem dX3_measureRests_27 : decode cX3_measureRests 27 = .ok (.iinc 5 1, 3) := by decide +kernel
theorem dX3_measureRests_30 : decode cX3_measureRests 30 = .ok (.goto (-27), 3) := by decide +kernel
theorem dX3_measureRests_33 : decode cX3_measureRests 33 = .ok (.aload_n 1, 1) := by decide +kernel
theorem dX3_measureRests_34 : decode cX3_measureRests 34 = .ok (.invokevirtual 28, 3) := by decide +kernel
theorem dX3_measureRests_37 : decode cX3_measureRests 37 = .ok (.iconst 1, 1) := by decide +kernel
theorem dX3_measureRests_38 : decode cX3_measureRests 38 = .ok (.isub, 1) := by decide +kernel
theorem dX3_measureRests_39 : decode cX3_measureRests 39 = .ok (.istore 5, 2) := by decide +kernel
theorem dX3_measureRests_41 : decode cX3_measureRests 41 = .ok (.iload 5, 2) := by decide +kernel
theorem dX3_measureRests_43 : decode cX3_measureRests 43 = .ok (.ifCond .lt 118, 3) := by decide +kernel
theorem dX3_measureRests_46 : decode cX3_measureRests 46 = .ok (.aload_n 0, 1) := by decide +kernel
theorem dX3_measureRests_47 : decode cX3_measureRests 47 = .ok (.getfield 21, 3) := by decide +kernel
theorem dX3_measureRests_50 : decode cX3_measureRests 50 = .ok (.iload 5, 2) := by decide +kernel
theorem dX3_measureRests_52 : decode cX3_measureRests 52 = .ok (.aaload, 1) := by decide +kernel
theorem dX3_measureRests_53 : decode cX3_measureRests 53 = .ok (.iload 4, 2) := by decide +kernel
theorem dX3_measureRests_55 : decode cX3_measureRests 55 = .ok (.aload_n 1, 1) := by decide +kernel
theorem dX3_measureRests_56 : decode cX3_measureRests 56 = .ok (.invokevirtual 28, 3) := by decide +kernel
theorem dX3_measureRests_59 : decode cX3_measureRests 59 = .ok (.iload 5, 2) := by decide +kernel
theorem dX3_measureRests_61 : decode cX3_measureRests 61 = .ok (.isub, 1) := by decide +kernel
theorem dX3_measureRests_62 : decode cX3_measureRests 62 = .ok (.iastore, 1) := by decide +kernel
theorem dX3_measureRests_63 : decode cX3_measureRests 63 = .ok (.iload 4, 2) := by decide +kernel
theorem dX3_measureRests_65 : decode cX3_measureRests 65 = .ok (.iconst 1, 1) := by decide +kernel
theorem dX3_measureRests_66 : decode cX3_measureRests 66 = .ok (.isub, 1) := by decide +kernel
theorem dX3_measureRests_67 : decode cX3_measureRests 67 = .ok (.istore 6, 2) := by decide +kernel
theorem dX3_measureRests_69 : decode cX3_measureRests 69 = .ok (.iload 6, 2) := by decide +kernel
theorem dX3_measureRests_71 : decode cX3_measureRests 71 = .ok (.iload_n 3, 1) := by decide +kernel
theorem dX3_measureRests_72 : decode cX3_measureRests 72 = .ok (.if_icmp .lt 83, 3) := by decide +kernel
theorem dX3_measureRests_75 : decode cX3_measureRests 75 = .ok (.aload_n 0, 1) := by decide +kernel
theorem dX3_measureRests_76 : decode cX3_measureRests 76 = .ok (.getfield 21, 3) := by decide +kernel
theorem dX3_measureRests_79 : decode cX3_measureRests 79 = .ok (.iload 5, 2) := by decide +kernel
theorem dX3_measureRests_81 : decode cX3_measureRests 81 = .ok (.iconst 1, 1) := by decide +kernel
theorem dX3_measureRests_82 : decode cX3_measureRests 82 = .ok (.iadd, 1) := by decide +kernel
theorem dX3_measureRests_83 : decode cX3_measureRests 83 = .ok (.aaload, 1) := by decide +kernel
theorem dX3_measureRests_84 : decode cX3_measureRests 84 = .ok (.iload 6, 2) := by decide +kernel
theorem dX3_measureRests_86 : decode cX3_measureRests 86 = .ok (.iconst 1, 1) := by decide +kernel
theorem dX3_measureRests_87 : decode cX3_measureRests 87 = .ok (.iadd, 1) := by decide +kernel
theorem dX3_measureRests_88 : decode cX3_measureRests 88 = .ok (.iaload, 1) := by decide +kernel
theorem dX3_measureRests_89 : decode cX3_measureRests 89 = .ok (.aload_n 1, 1) := by decide +kernel
theorem dX3_measureRests_90 : decode cX3_measureRests 90 = .ok (.aload_n 2, 1) := by decide +kernel
theorem dX3_measureRests_91 : decode cX3_measureRests 91 = .ok (.iload 5, 2) := by decide +kernel
theorem dX3_measureRests_93 : decode cX3_measureRests 93 = .ok (.iload 6, 2) := by decide +kernel
theorem dX3_measureRests_95 : decode cX3_measureRests 95 = .ok (.invokestatic 38, 3) := by decide +kernel
theorem dX3_measureRests_98 : decode cX3_measureRests 98 = .ok (.iadd, 1) := by decide +kernel
theorem dX3_measureRests_99 : decode cX3_measureRests 99 = .ok (.istore 7, 2) := by decide +kernel
theorem dX3_measureRests_101 : decode cX3_measureRests 101 = .ok (.aload_n 0, 1) := by decide +kernel
theorem dX3_measureRests_102 : decode cX3_measureRests 102 = .ok (.getfield 21, 3) := by decide +kernel
theorem dX3_measureRests_105 : decode cX3_measureRests 105 = .ok (.iload 5, 2) := by decide +kernel
theorem dX3_measureRests_107 : decode cX3_measureRests 107 = .ok (.iconst 1, 1) := by decide +kernel
theorem dX3_measureRests_108 : decode cX3_measureRests 108 = .ok (.iadd, 1) := by decide +kernel
theorem dX3_measureRests_109 : decode cX3_measureRests 109 = .ok (.aaload, 1) := by decide +kernel
theorem dX3_measureRests_110 : decode cX3_measureRests 110 = .ok (.iload 6, 2) := by decide +kernel
theorem dX3_measureRests_112 : decode cX3_measureRests 112 = .ok (.iaload, 1) := by decide +kernel
theorem dX3_measureRests_113 : decode cX3_measureRests 113 = .ok (.aload_n 0, 1) := by decide +kernel
theorem dX3_measureRests_114 : decode cX3_measureRests 114 = .ok (.getfield 21, 3) := by decide +kernel
theorem dX3_measureRests_117 : decode cX3_measureRests 117 = .ok (.iload 5, 2) := by decide +kernel
theorem dX3_measureRests_119 : decode cX3_measureRests 119 = .ok (.aaload, 1) := by decide +kernel
theorem dX3_measureRests_120 : decode cX3_measureRests 120 = .ok (.iload 6, 2) := by decide +kernel
theorem dX3_measureRests_122 : decode cX3_measureRests 122 = .ok (.iconst 1, 1) := by decide +kernel
theorem dX3_measureRests_123 : decode cX3_measureRests 123 = .ok (.iadd, 1) := by decide +kernel
theorem dX3_measureRests_124 : decode cX3_measureRests 124 = .ok (.iaload, 1) := by decide +kernel
theorem dX3_measureRests_125 : decode cX3_measureRests 125 = .ok (.invokestatic 42, 3) := by decide +kernel
theorem dX3_measureRests_128 : decode cX3_measureRests 128 = .ok (.iconst 1, 1) := by decide +kernel
theorem dX3_measureRests_129 : decode cX3_measureRests 129 = .ok (.iadd, 1) := by decide +kernel
theorem dX3_measureRests_130 : decode cX3_measureRests 130 = .ok (.istore 8, 2) := by decide +kernel
theorem dX3_measureRests_132 : decode cX3_measureRests 132 = .ok (.aload_n 0, 1) := by decide +kernel
theorem dX3_measureRests_133 : decode cX3_measureRests 133 = .ok (.getfield 21, 3) := by decide +kernel
theorem dX3_measureRests_136 : decode cX3_measureRests 136 = .ok (.iload 5, 2) := by decide +kernel
theorem dX3_measureRests_138 : decode cX3_measureRests 138 = .ok (.aaload, 1) := by decide +kernel
theorem dX3_measureRests_139 : decode cX3_measureRests 139 = .ok (.iload 6, 2) := by decide +kernel
theorem dX3_measureRests_141 : decode cX3_measureRests 141 = .ok (.iload 7, 2) := by decide +kernel
theorem dX3_measureRests_143 : decode cX3_measureRests 143 = .ok (.iload 8, 2) := by decide +kernel
theorem dX3_measureRests_145 : decode cX3_measureRests 145 = .ok (.invokestatic 42, 3) := by decide +kernel
theorem dX3_measureRests_148 : decode cX3_measureRests 148 = .ok (.iastore, 1) := by decide +kernel
theorem dX3_measureRests_149 : decode cX3_measureRests 149 = .ok (.iinc 6 (-1), 3) := by decide +kernel
theorem dX3_measureRests_152 : decode cX3_measureRests 152 = .ok (.goto (-83), 3) := by decide +kernel
theorem dX3_measureRests_155 : decode cX3_measureRests 155 = .ok (.iinc 5 (-1), 3) := by decide +kernel
theorem dX3_measureRests_158 : decode cX3_measureRests 158 = .ok (.goto (-117), 3) := by decide +kernel
theorem dX3_measureRests_161 : decode cX3_measureRests 161 = .ok (.return_, 1) := by decide +kernel
set_option maxRecDepth 20000 in
theorem ggX3_nextStep_X4_size : GoodIn wsX3_nextStep wsX4_size := goodIn_r _ [6, 7, 20, 21] (by decide +kernel) (by decide +kernel)
set_option maxRecDepth 20000 in
theorem gX3_nextStep_X4_size : GoodIn wsX3_nextStep (wsV RX3 28 RX4 yX4_size wsX4_size) := goodIn_app (goodIn_of _ (by decide +kernel)) ggX3_nextStep_X4_size
set_option maxRecDepth 20000 in
theorem ggX3_nextStep_X3_changeAt : GoodIn wsX3_nextStep wsX3_changeAt := goodIn_r _ [11, 12, 13, 14, 5, 15, 16, 20, 21] (by decide +kernel) (by decide +kernel)
set_option maxRecDepth 20000 in
theorem gX3_nextStep_X3_changeAt : GoodIn wsX3_nextStep (va_wsS RX3 38 yX3_changeAt wsX3_changeAt) := goodIn_app (goodIn_of _ (by decide +kernel)) ggX3_nextStep_X3_changeAt
theorem dX3_nextStep_0 : decode cX3_nextStep 0 = .ok (.iload_n 3, 1) := by decide +kernel
theorem dX3_nextStep_1 : decode cX3_nextStep 1 = .ok (.aload_n 1, 1) := by decide +kernel
theorem dX3_nextStep_2 : decode cX3_nextStep 2 = .ok (.invokevirtual 28, 3) := by decide +kernel
theorem dX3_nextStep_5 : decode cX3_nextStep 5 = .ok (.if_icmp .lt 5, 3) := by decide +kernel
theorem dX3_nextStep_8 : decode cX3_nextStep 8 = .ok (.iconst 3, 1) := by decide +kernel
theorem dX3_nextStep_9 : decode cX3_nextStep 9 = .ok (.ireturn, 1) := by decide +kernel
theorem dX3_nextStep_10 : decode cX3_nextStep 10 = .ok (.iload 4, 2) := by decide +kernel
theorem dX3_nextStep_12 : decode cX3_nextStep 12 = .ok (.iload 5, 2) := by decide +kernel
theorem dX3_nextStep_14 : decode cX3_nextStep 14 = .ok (.if_icmp .lt 5, 3) := by decide +kernel
theorem dX3_nextStep_17 : decode cX3_nextStep 17 = .ok (.iconst 2, 1) := by decide +kernel
theorem dX3_nextStep_18 : decode cX3_nextStep 18 = .ok (.ireturn, 1) := by decide +kernel
theorem dX3_nextStep_19 : decode cX3_nextStep 19 = .ok (.aload_n 1, 1) := by decide +kernel
theorem dX3_nextStep_20 : decode cX3_nextStep 20 = .ok (.aload_n 2, 1) := by decide +kernel
theorem dX3_nextStep_21 : decode cX3_nextStep 21 = .ok (.iload_n 3, 1) := by decide +kernel
theorem dX3_nextStep_22 : decode cX3_nextStep 22 = .ok (.iload 4, 2) := by decide +kernel
theorem dX3_nextStep_24 : decode cX3_nextStep 24 = .ok (.invokestatic 38, 3) := by decide +kernel
theorem dX3_nextStep_27 : decode cX3_nextStep 27 = .ok (.istore 6, 2) := by decide +kernel
theorem dX3_nextStep_29 : decode cX3_nextStep 29 = .ok (.aload_n 0, 1) := by decide +kernel
theorem dX3_nextStep_30 : decode cX3_nextStep 30 = .ok (.getfield 21, 3) := by decide +kernel
theorem dX3_nextStep_33 : decode cX3_nextStep 33 = .ok (.iload_n 3, 1) := by decide +kernel
theorem dX3_nextStep_34 : decode cX3_nextStep 34 = .ok (.aaload, 1) := by decide +kernel
theorem dX3_nextStep_35 : decode cX3_nextStep 35 = .ok (.iload 4, 2) := by decide +kernel
theorem dX3_nextStep_37 : decode cX3_nextStep 37 = .ok (.iaload, 1) := by decide +kernel
theorem dX3_nextStep_38 : decode cX3_nextStep 38 = .ok (.aload_n 0, 1) := by decide +kernel
theorem dX3_nextStep_39 : decode cX3_nextStep 39 = .ok (.getfield 21, 3) := by decide +kernel
theorem dX3_nextStep_42 : decode cX3_nextStep 42 = .ok (.iload_n 3, 1) := by decide +kernel
theorem dX3_nextStep_43 : decode cX3_nextStep 43 = .ok (.iconst 1, 1) := by decide +kernel
theorem dX3_nextStep_44 : decode cX3_nextStep 44 = .ok (.iadd, 1) := by decide +kernel
theorem dX3_nextStep_45 : decode cX3_nextStep 45 = .ok (.aaload, 1) := by decide +kernel
theorem dX3_nextStep_46 : decode cX3_nextStep 46 = .ok (.iload 4, 2) := by decide +kernel
theorem dX3_nextStep_48 : decode cX3_nextStep 48 = .ok (.iconst 1, 1) := by decide +kernel
theorem dX3_nextStep_49 : decode cX3_nextStep 49 = .ok (.iadd, 1) := by decide +kernel
theorem dX3_nextStep_50 : decode cX3_nextStep 50 = .ok (.iaload, 1) := by decide +kernel
theorem dX3_nextStep_51 : decode cX3_nextStep 51 = .ok (.iload 6, 2) := by decide +kernel
theorem dX3_nextStep_53 : decode cX3_nextStep 53 = .ok (.iadd, 1) := by decide +kernel
theorem dX3_nextStep_54 : decode cX3_nextStep 54 = .ok (.if_icmp .ne 6, 3) := by decide +kernel
theorem dX3_nextStep_57 : decode cX3_nextStep 57 = .ok (.iload 6, 2) := by decide +kernel
theorem dX3_nextStep_59 : decode cX3_nextStep 59 = .ok (.ireturn, 1) := by decide +kernel
theorem dX3_nextStep_60 : decode cX3_nextStep 60 = .ok (.aload_n 0, 1) := by decide +kernel
theorem dX3_nextStep_61 : decode cX3_nextStep 61 = .ok (.getfield 21, 3) := by decide +kernel
theorem dX3_nextStep_64 : decode cX3_nextStep 64 = .ok (.iload_n 3, 1) := by decide +kernel
theorem dX3_nextStep_65 : decode cX3_nextStep 65 = .ok (.aaload, 1) := by decide +kernel
theorem dX3_nextStep_66 : decode cX3_nextStep 66 = .ok (.iload 4, 2) := by decide +kernel
theorem dX3_nextStep_68 : decode cX3_nextStep 68 = .ok (.iaload, 1) := by decide +kernel
theorem dX3_nextStep_69 : decode cX3_nextStep 69 = .ok (.aload_n 0, 1) := by decide +kernel
theorem dX3_nextStep_70 : decode cX3_nextStep 70 = .ok (.getfield 21, 3) := by decide +kernel
theorem dX3_nextStep_73 : decode cX3_nextStep 73 = .ok (.iload_n 3, 1) := by decide +kernel
theorem dX3_nextStep_74 : decode cX3_nextStep 74 = .ok (.iconst 1, 1) := by decide +kernel
theorem dX3_nextStep_75 : decode cX3_nextStep 75 = .ok (.iadd, 1) := by decide +kernel
theorem dX3_nextStep_76 : decode cX3_nextStep 76 = .ok (.aaload, 1) := by decide +kernel
theorem dX3_nextStep_77 : decode cX3_nextStep 77 = .ok (.iload 4, 2) := by decide +kernel
theorem dX3_nextStep_79 : decode cX3_nextStep 79 = .ok (.iaload, 1) := by decide +kernel
theorem dX3_nextStep_80 : decode cX3_nextStep 80 = .ok (.iconst 1, 1) := by decide +kernel
theorem dX3_nextStep_81 : decode cX3_nextStep 81 = .ok (.iadd, 1) := by decide +kernel
theorem dX3_nextStep_82 : decode cX3_nextStep 82 = .ok (.if_icmp .ne 7, 3) := by decide +kernel
theorem dX3_nextStep_85 : decode cX3_nextStep 85 = .ok (.iconst 2, 1) := by decide +kernel
theorem dX3_nextStep_86 : decode cX3_nextStep 86 = .ok (.goto 4, 3) := by decide +kernel
theorem dX3_nextStep_89 : decode cX3_nextStep 89 = .ok (.iconst 3, 1) := by decide +kernel
theorem dX3_nextStep_90 : decode cX3_nextStep 90 = .ok (.ireturn, 1) := by decide +kernel
set_option maxRecDepth 20000 in
theorem ggX3_changeAt_X4_signBehind : GoodIn wsX3_changeAt wsX4_signBehind := goodIn_r _ [5, 6, 7, 8] (by decide +kernel) (by decide +kernel)
set_option maxRecDepth 20000 in
theorem gX3_changeAt_X4_signBehind : GoodIn wsX3_changeAt (wsV RX3 48 RX4 yX4_signBehind wsX4_signBehind) := goodIn_app (goodIn_of _ (by decide +kernel)) ggX3_changeAt_X4_signBehind
theorem dX3_changeAt_0 : decode cX3_changeAt 0 = .ok (.aload_n 0, 1) := by decide +kernel
theorem dX3_changeAt_1 : decode cX3_changeAt 1 = .ok (.iload_n 2, 1) := by decide +kernel
theorem dX3_changeAt_2 : decode cX3_changeAt 2 = .ok (.invokevirtual 48, 3) := by decide +kernel
theorem dX3_changeAt_5 : decode cX3_changeAt 5 = .ok (.aload_n 1, 1) := by decide +kernel
theorem dX3_changeAt_6 : decode cX3_changeAt 6 = .ok (.iload_n 3, 1) := by decide +kernel
theorem dX3_changeAt_7 : decode cX3_changeAt 7 = .ok (.invokevirtual 48, 3) := by decide +kernel
theorem dX3_changeAt_10 : decode cX3_changeAt 10 = .ok (.if_icmp .ne 7, 3) := by decide +kernel
theorem dX3_changeAt_13 : decode cX3_changeAt 13 = .ok (.iconst 0, 1) := by decide +kernel
theorem dX3_changeAt_14 : decode cX3_changeAt 14 = .ok (.goto 4, 3) := by decide +kernel
theorem dX3_changeAt_17 : decode cX3_changeAt 17 = .ok (.iconst 1, 1) := by decide +kernel
theorem dX3_changeAt_18 : decode cX3_changeAt 18 = .ok (.ireturn, 1) := by decide +kernel
theorem dX4_init_0 : decode cX4_init 0 = .ok (.aload_n 0, 1) := by decide +kernel
theorem dX4_init_1 : decode cX4_init 1 = .ok (.invokespecial 1, 3) := by decide +kernel
theorem dX4_init_4 : decode cX4_init 4 = .ok (.aload_n 0, 1) := by decide +kernel
theorem dX4_init_5 : decode cX4_init 5 = .ok (.iload_n 1, 1) := by decide +kernel
theorem dX4_init_6 : decode cX4_init 6 = .ok (.newarray .int, 2) := by decide +kernel
theorem dX4_init_8 : decode cX4_init 8 = .ok (.putfield 7, 3) := by decide +kernel
theorem dX4_init_11 : decode cX4_init 11 = .ok (.aload_n 0, 1) := by decide +kernel
theorem dX4_init_12 : decode cX4_init 12 = .ok (.iconst 0, 1) := by decide +kernel
theorem dX4_init_13 : decode cX4_init 13 = .ok (.putfield 13, 3) := by decide +kernel
theorem dX4_init_16 : decode cX4_init 16 = .ok (.return_, 1) := by decide +kernel
theorem dX4_size_0 : decode cX4_size 0 = .ok (.aload_n 0, 1) := by decide +kernel
theorem dX4_size_1 : decode cX4_size 1 = .ok (.getfield 13, 3) := by decide +kernel
theorem dX4_size_4 : decode cX4_size 4 = .ok (.ireturn, 1) := by decide +kernel
theorem dX4_room_0 : decode cX4_room 0 = .ok (.aload_n 0, 1) := by decide +kernel
theorem dX4_room_1 : decode cX4_room 1 = .ok (.getfield 7, 3) := by decide +kernel
theorem dX4_room_4 : decode cX4_room 4 = .ok (.arraylength, 1) := by decide +kernel
theorem dX4_room_5 : decode cX4_room 5 = .ok (.aload_n 0, 1) := by decide +kernel
theorem dX4_room_6 : decode cX4_room 6 = .ok (.getfield 13, 3) := by decide +kernel
theorem dX4_room_9 : decode cX4_room 9 = .ok (.isub, 1) := by decide +kernel
theorem dX4_room_10 : decode cX4_room 10 = .ok (.ireturn, 1) := by decide +kernel
theorem dX4_signBehind_0 : decode cX4_signBehind 0 = .ok (.aload_n 0, 1) := by decide +kernel
theorem dX4_signBehind_1 : decode cX4_signBehind 1 = .ok (.getfield 7, 3) := by decide +kernel
theorem dX4_signBehind_4 : decode cX4_signBehind 4 = .ok (.iload_n 1, 1) := by decide +kernel
theorem dX4_signBehind_5 : decode cX4_signBehind 5 = .ok (.iaload, 1) := by decide +kernel
theorem dX4_signBehind_6 : decode cX4_signBehind 6 = .ok (.ireturn, 1) := by decide +kernel
theorem dX4_takeSignsOf_0 : decode cX4_takeSignsOf 0 = .ok (.iconst 0, 1) := by decide +kernel
theorem dX4_takeSignsOf_1 : decode cX4_takeSignsOf 1 = .ok (.istore_n 2, 1) := by decide +kernel
theorem dX4_takeSignsOf_2 : decode cX4_takeSignsOf 2 = .ok (.iload_n 2, 1) := by decide +kernel
theorem dX4_takeSignsOf_3 : decode cX4_takeSignsOf 3 = .ok (.bipush 32, 2) := by decide +kernel
theorem dX4_takeSignsOf_5 : decode cX4_takeSignsOf 5 = .ok (.if_icmp .ge 53, 3) := by decide +kernel
theorem dX4_takeSignsOf_8 : decode cX4_takeSignsOf 8 = .ok (.iload_n 1, 1) := by decide +kernel
theorem dX4_takeSignsOf_9 : decode cX4_takeSignsOf 9 = .ok (.iload_n 2, 1) := by decide +kernel
theorem dX4_takeSignsOf_10 : decode cX4_takeSignsOf 10 = .ok (.iushr, 1) := by decide +kernel
theorem dX4_takeSignsOf_11 : decode cX4_takeSignsOf 11 = .ok (.sipush 255, 3) := by decide +kernel
theorem dX4_takeSignsOf_14 : decode cX4_takeSignsOf 14 = .ok (.iand, 1) := by decide +kernel
theorem dX4_takeSignsOf_15 : decode cX4_takeSignsOf 15 = .ok (.istore_n 3, 1) := by decide +kernel
theorem dX4_takeSignsOf_16 : decode cX4_takeSignsOf 16 = .ok (.iload_n 3, 1) := by decide +kernel
theorem dX4_takeSignsOf_17 : decode cX4_takeSignsOf 17 = .ok (.ifCond .eq 35, 3) := by decide +kernel
theorem dX4_takeSignsOf_20 : decode cX4_takeSignsOf 20 = .ok (.aload_n 0, 1) := by decide +kernel
theorem dX4_takeSignsOf_21 : decode cX4_takeSignsOf 21 = .ok (.getfield 13, 3) := by decide +kernel
theorem dX4_takeSignsOf_24 : decode cX4_takeSignsOf 24 = .ok (.aload_n 0, 1) := by decide +kernel
theorem dX4_takeSignsOf_25 : decode cX4_takeSignsOf 25 = .ok (.getfield 7, 3) := by decide +kernel
theorem dX4_takeSignsOf_28 : decode cX4_takeSignsOf 28 = .ok (.arraylength, 1) := by decide +kernel
theorem dX4_takeSignsOf_29 : decode cX4_takeSignsOf 29 = .ok (.if_icmp .ge 23, 3) := by decide +kernel
theorem dX4_takeSignsOf_32 : decode cX4_takeSignsOf 32 = .ok (.aload_n 0, 1) := by decide +kernel
theorem dX4_takeSignsOf_33 : decode cX4_takeSignsOf 33 = .ok (.getfield 7, 3) := by decide +kernel
theorem dX4_takeSignsOf_36 : decode cX4_takeSignsOf 36 = .ok (.aload_n 0, 1) := by decide +kernel
theorem dX4_takeSignsOf_37 : decode cX4_takeSignsOf 37 = .ok (.getfield 13, 3) := by decide +kernel
theorem dX4_takeSignsOf_40 : decode cX4_takeSignsOf 40 = .ok (.iload_n 3, 1) := by decide +kernel
theorem dX4_takeSignsOf_41 : decode cX4_takeSignsOf 41 = .ok (.iastore, 1) := by decide +kernel
theorem dX4_takeSignsOf_42 : decode cX4_takeSignsOf 42 = .ok (.aload_n 0, 1) := by decide +kernel
theorem dX4_takeSignsOf_43 : decode cX4_takeSignsOf 43 = .ok (.dup, 1) := by decide +kernel
theorem dX4_takeSignsOf_44 : decode cX4_takeSignsOf 44 = .ok (.getfield 13, 3) := by decide +kernel
theorem dX4_takeSignsOf_47 : decode cX4_takeSignsOf 47 = .ok (.iconst 1, 1) := by decide +kernel
theorem dX4_takeSignsOf_48 : decode cX4_takeSignsOf 48 = .ok (.iadd, 1) := by decide +kernel
theorem dX4_takeSignsOf_49 : decode cX4_takeSignsOf 49 = .ok (.putfield 13, 3) := by decide +kernel
theorem dX4_takeSignsOf_52 : decode cX4_takeSignsOf 52 = .ok (.iinc 2 8, 3) := by decide +kernel
theorem dX4_takeSignsOf_55 : decode cX4_takeSignsOf 55 = .ok (.goto (-53), 3) := by decide +kernel
theorem dX4_takeSignsOf_58 : decode cX4_takeSignsOf 58 = .ok (.return_, 1) := by decide +kernel
theorem dX4_becomeEmpty_0 : decode cX4_becomeEmpty 0 = .ok (.aload_n 0, 1) := by decide +kernel
theorem dX4_becomeEmpty_1 : decode cX4_becomeEmpty 1 = .ok (.iconst 0, 1) := by decide +kernel
theorem dX4_becomeEmpty_2 : decode cX4_becomeEmpty 2 = .ok (.putfield 13, 3) := by decide +kernel
theorem dX4_becomeEmpty_5 : decode cX4_becomeEmpty 5 = .ok (.return_, 1) := by decide +kernel
theorem dX4_becomeCopyOf_0 : decode cX4_becomeCopyOf 0 = .ok (.aload_n 0, 1) := by decide +kernel
theorem dX4_becomeCopyOf_1 : decode cX4_becomeCopyOf 1 = .ok (.aload_n 1, 1) := by decide +kernel
theorem dX4_becomeCopyOf_2 : decode cX4_becomeCopyOf 2 = .ok (.getfield 13, 3) := by decide +kernel
theorem dX4_becomeCopyOf_5 : decode cX4_becomeCopyOf 5 = .ok (.aload_n 0, 1) := by decide +kernel
theorem dX4_becomeCopyOf_6 : decode cX4_becomeCopyOf 6 = .ok (.getfield 7, 3) := by decide +kernel
theorem dX4_becomeCopyOf_9 : decode cX4_becomeCopyOf 9 = .ok (.arraylength, 1) := by decide +kernel
theorem dX4_becomeCopyOf_10 : decode cX4_becomeCopyOf 10 = .ok (.invokestatic 17, 3) := by decide +kernel
theorem dX4_becomeCopyOf_13 : decode cX4_becomeCopyOf 13 = .ok (.putfield 13, 3) := by decide +kernel
theorem dX4_becomeCopyOf_16 : decode cX4_becomeCopyOf 16 = .ok (.aload_n 1, 1) := by decide +kernel
theorem dX4_becomeCopyOf_17 : decode cX4_becomeCopyOf 17 = .ok (.getfield 7, 3) := by decide +kernel
theorem dX4_becomeCopyOf_20 : decode cX4_becomeCopyOf 20 = .ok (.iconst 0, 1) := by decide +kernel
theorem dX4_becomeCopyOf_21 : decode cX4_becomeCopyOf 21 = .ok (.aload_n 0, 1) := by decide +kernel
theorem dX4_becomeCopyOf_22 : decode cX4_becomeCopyOf 22 = .ok (.getfield 7, 3) := by decide +kernel
theorem dX4_becomeCopyOf_25 : decode cX4_becomeCopyOf 25 = .ok (.iconst 0, 1) := by decide +kernel
theorem dX4_becomeCopyOf_26 : decode cX4_becomeCopyOf 26 = .ok (.aload_n 0, 1) := by decide +kernel
theorem dX4_becomeCopyOf_27 : decode cX4_becomeCopyOf 27 = .ok (.getfield 13, 3) := by decide +kernel
theorem dX4_becomeCopyOf_30 : decode cX4_becomeCopyOf 30 = .ok (.invokestatic 23, 3) := by decide +kernel
theorem dX4_becomeCopyOf_33 : decode cX4_becomeCopyOf 33 = .ok (.return_, 1) := by decide +kernel
set_option maxRecDepth 20000 in
theorem ggX5_init_X4_init : GoodIn wsX5_init wsX4_init := goodIn_r _ [28, 29, 2, 3, 30, 31, 32, 72, 73] (by decide +kernel) (by decide +kernel)
set_option maxRecDepth 20000 in
theorem gX5_init_X4_init : GoodIn wsX5_init (wsX4_init) := ggX5_init_X4_init
set_option maxRecDepth 20000 in
theorem ggX5_init_X2_init : GoodIn wsX5_init wsX2_init := goodIn_r _ [35, 36, 2, 3, 37, 30, 38, 39, 40, 81, 82, 83] (by decide +kernel) (by decide +kernel)
set_option maxRecDepth 20000 in
theorem gX5_init_X2_init : GoodIn wsX5_init (wsX2_init) := ggX5_init_X2_init
set_option maxRecDepth 20000 in
theorem ggX5_init_X0_init : GoodIn wsX5_init wsX0_init := goodIn_r _ [43, 44, 2, 3, 45, 5, 6, 46, 47, 30, 48, 49, 50, 51, 52, 53, 54, 27, 28, 29, 31, 32, 72, 73, 84, 85, 86, 87, 88, 89, 90, 91] (by decide +kernel) (by decide +kernel)
set_option maxRecDepth 20000 in
theorem gX5_init_X0_init : GoodIn wsX5_init (wsX0_init) := ggX5_init_X0_init
set_option maxRecDepth 20000 in
theorem ggX5_init_X3_init : GoodIn wsX5_init wsX3_init := goodIn_r _ [57, 58, 2, 3, 30, 59, 60, 61, 62, 92, 93, 94] (by decide +kernel) (by decide +kernel)
set_option maxRecDepth 20000 in
theorem gX5_init_X3_init : GoodIn wsX5_init (wsX3_init) := ggX5_init_X3_init
set_option maxRecDepth 20000 in
theorem ggX5_init_X1_init : GoodIn wsX5_init wsX1_init := goodIn_r _ [65, 66, 2, 3, 30, 67, 68, 69, 70, 71, 95, 96, 97, 98, 99] (by decide +kernel) (by decide +kernel)
set_option maxRecDepth 20000 in
theorem gX5_init_X1_init : GoodIn wsX5_init (wsX1_init) := ggX5_init_X1_init
theorem dX5_init_0 : decode cX5_init 0 = .ok (.aload_n 0, 1) := by decide +kernel
theorem dX5_init_1 : decode cX5_init 1 = .ok (.invokespecial 1, 3) := by decide +kernel
theorem dX5_init_4 : decode cX5_init 4 = .ok (.aload_n 0, 1) := by decide +kernel
theorem dX5_init_5 : decode cX5_init 5 = .ok (.new 7, 3) := by decide +kernel
theorem dX5_init_8 : decode cX5_init 8 = .ok (.dup, 1) := by decide +kernel
theorem dX5_init_9 : decode cX5_init 9 = .ok (.sipush 150, 3) := by decide +kernel
theorem dX5_init_12 : decode cX5_init 12 = .ok (.invokespecial 11, 3) := by decide +kernel
theorem dX5_init_15 : decode cX5_init 15 = .ok (.putfield 14, 3) := by decide +kernel
theorem dX5_init_18 : decode cX5_init 18 = .ok (.aload_n 0, 1) := by decide +kernel
theorem dX5_init_19 : decode cX5_init 19 = .ok (.new 7, 3) := by decide +kernel
theorem dX5_init_22 : decode cX5_init 22 = .ok (.dup, 1) := by decide +kernel
theorem dX5_init_23 : decode cX5_init 23 = .ok (.sipush 300, 3) := by decide +kernel
theorem dX5_init_26 : decode cX5_init 26 = .ok (.invokespecial 11, 3) := by decide +kernel
theorem dX5_init_29 : decode cX5_init 29 = .ok (.putfield 18, 3) := by decide +kernel
theorem dX5_init_32 : decode cX5_init 32 = .ok (.aload_n 0, 1) := by decide +kernel
theorem dX5_init_33 : decode cX5_init 33 = .ok (.new 21, 3) := by decide +kernel
theorem dX5_init_36 : decode cX5_init 36 = .ok (.dup, 1) := by decide +kernel
theorem dX5_init_37 : decode cX5_init 37 = .ok (.invokespecial 23, 3) := by decide +kernel
theorem dX5_init_40 : decode cX5_init 40 = .ok (.putfield 24, 3) := by decide +kernel
theorem dX5_init_43 : decode cX5_init 43 = .ok (.aload_n 0, 1) := by decide +kernel
theorem dX5_init_44 : decode cX5_init 44 = .ok (.new 28, 3) := by decide +kernel
theorem dX5_init_47 : decode cX5_init 47 = .ok (.dup, 1) := by decide +kernel
theorem dX5_init_48 : decode cX5_init 48 = .ok (.invokespecial 30, 3) := by decide +kernel
theorem dX5_init_51 : decode cX5_init 51 = .ok (.putfield 31, 3) := by decide +kernel
theorem dX5_init_54 : decode cX5_init 54 = .ok (.aload_n 0, 1) := by decide +kernel
theorem dX5_init_55 : decode cX5_init 55 = .ok (.new 35, 3) := by decide +kernel
theorem dX5_init_58 : decode cX5_init 58 = .ok (.dup, 1) := by decide +kernel
theorem dX5_init_59 : decode cX5_init 59 = .ok (.invokespecial 37, 3) := by decide +kernel
theorem dX5_init_62 : decode cX5_init 62 = .ok (.putfield 38, 3) := by decide +kernel
theorem dX5_init_65 : decode cX5_init 65 = .ok (.aload_n 0, 1) := by decide +kernel
theorem dX5_init_66 : decode cX5_init 66 = .ok (.new 42, 3) := by decide +kernel
theorem dX5_init_69 : decode cX5_init 69 = .ok (.dup, 1) := by decide +kernel
theorem dX5_init_70 : decode cX5_init 70 = .ok (.invokespecial 44, 3) := by decide +kernel
theorem dX5_init_73 : decode cX5_init 73 = .ok (.putfield 45, 3) := by decide +kernel
theorem dX5_init_76 : decode cX5_init 76 = .ok (.aload_n 0, 1) := by decide +kernel
theorem dX5_init_77 : decode cX5_init 77 = .ok (.iconst (-1), 1) := by decide +kernel
theorem dX5_init_78 : decode cX5_init 78 = .ok (.putfield 49, 3) := by decide +kernel
theorem dX5_init_81 : decode cX5_init 81 = .ok (.return_, 1) := by decide +kernel
set_option maxRecDepth 20000 in
theorem ggX5_feed_X5_signsIn : GoodIn wsX5_feed wsX5_signsIn := goodIn_r _ [10] (by decide +kernel) (by decide +kernel)
set_option maxRecDepth 20000 in
theorem gX5_feed_X5_signsIn : GoodIn wsX5_feed (va_wsS RX5 60 yX5_signsIn wsX5_signsIn) := goodIn_app (goodIn_of _ (by decide +kernel)) ggX5_feed_X5_signsIn
set_option maxRecDepth 20000 in
theorem ggX5_feed_X4_room : GoodIn wsX5_feed wsX4_room := goodIn_r _ [15, 16, 17, 33, 34] (by decide +kernel) (by decide +kernel)
set_option maxRecDepth 20000 in
theorem gX5_feed_X4_room : GoodIn wsX5_feed (wsV RX5 64 RX4 yX4_room wsX4_room) := goodIn_app (goodIn_of _ (by decide +kernel)) ggX5_feed_X4_room
set_option maxRecDepth 20000 in
theorem ggX5_feed_X4_takeSignsOf : GoodIn wsX5_feed wsX4_takeSignsOf := goodIn_r _ [21, 17, 16, 33, 34] (by decide +kernel) (by decide +kernel)
set_option maxRecDepth 20000 in
theorem gX5_feed_X4_takeSignsOf : GoodIn wsX5_feed (wsV RX5 73 RX4 yX4_takeSignsOf wsX4_takeSignsOf) := goodIn_app (goodIn_of _ (by decide +kernel)) ggX5_feed_X4_takeSignsOf
set_option maxRecDepth 20000 in
theorem ggX5_feed_X4_size : GoodIn wsX5_feed wsX4_size := goodIn_r _ [25, 17, 33, 34] (by decide +kernel) (by decide +kernel)
set_option maxRecDepth 20000 in
theorem gX5_feed_X4_size : GoodIn wsX5_feed (wsV RX5 76 RX4 yX4_size wsX4_size) := goodIn_app (goodIn_of _ (by decide +kernel)) ggX5_feed_X4_size
theorem dX5_feed_0 : decode cX5_feed 0 = .ok (.iload_n 1, 1) := by decide +kernel
theorem dX5_feed_1 : decode cX5_feed 1 = .ok (.ifCond .eq 18, 3) := by decide +kernel
theorem dX5_feed_4 : decode cX5_feed 4 = .ok (.iload_n 1, 1) := by decide +kernel
theorem dX5_feed_5 : decode cX5_feed 5 = .ok (.iconst 1, 1) := by decide +kernel
theorem dX5_feed_6 : decode cX5_feed 6 = .ok (.if_icmp .eq 13, 3) := by decide +kernel
theorem dX5_feed_9 : decode cX5_feed 9 = .ok (.new 53, 3) := by decide +kernel
theorem dX5_feed_12 : decode cX5_feed 12 = .ok (.dup, 1) := by decide +kernel
theorem dX5_feed_13 : decode cX5_feed 13 = .ok (.ldc 55, 2) := by decide +kernel
theorem dX5_feed_15 : decode cX5_feed 15 = .ok (.invokespecial 57, 3) := by decide +kernel
theorem dX5_feed_18 : decode cX5_feed 18 = .ok (.athrow, 1) := by decide +kernel
theorem dX5_feed_19 : decode cX5_feed 19 = .ok (.iload_n 1, 1) := by decide +kernel
theorem dX5_feed_20 : decode cX5_feed 20 = .ok (.ifCond .ne 10, 3) := by decide +kernel
theorem dX5_feed_23 : decode cX5_feed 23 = .ok (.aload_n 0, 1) := by decide +kernel
theorem dX5_feed_24 : decode cX5_feed 24 = .ok (.getfield 14, 3) := by decide +kernel
theorem dX5_feed_27 : decode cX5_feed 27 = .ok (.goto 7, 3) := by decide +kernel
theorem dX5_feed_30 : decode cX5_feed 30 = .ok (.aload_n 0, 1) := by decide +kernel
theorem dX5_feed_31 : decode cX5_feed 31 = .ok (.getfield 18, 3) := by decide +kernel
theorem dX5_feed_34 : decode cX5_feed 34 = .ok (.astore 6, 2) := by decide +kernel
theorem dX5_feed_36 : decode cX5_feed 36 = .ok (.iload_n 2, 1) := by decide +kernel
theorem dX5_feed_37 : decode cX5_feed 37 = .ok (.invokestatic 60, 3) := by decide +kernel
theorem dX5_feed_40 : decode cX5_feed 40 = .ok (.iload_n 3, 1) := by decide +kernel
theorem dX5_feed_41 : decode cX5_feed 41 = .ok (.invokestatic 60, 3) := by decide +kernel
theorem dX5_feed_44 : decode cX5_feed 44 = .ok (.iadd, 1) := by decide +kernel
theorem dX5_feed_45 : decode cX5_feed 45 = .ok (.iload 4, 2) := by decide +kernel
theorem dX5_feed_47 : decode cX5_feed 47 = .ok (.invokestatic 60, 3) := by decide +kernel
theorem dX5_feed_50 : decode cX5_feed 50 = .ok (.iadd, 1) := by decide +kernel
theorem dX5_feed_51 : decode cX5_feed 51 = .ok (.iload 5, 2) := by decide +kernel
theorem dX5_feed_53 : decode cX5_feed 53 = .ok (.invokestatic 60, 3) := by decide +kernel
theorem dX5_feed_56 : decode cX5_feed 56 = .ok (.iadd, 1) := by decide +kernel
theorem dX5_feed_57 : decode cX5_feed 57 = .ok (.aload 6, 2) := by decide +kernel
theorem dX5_feed_59 : decode cX5_feed 59 = .ok (.invokevirtual 64, 3) := by decide +kernel
theorem dX5_feed_62 : decode cX5_feed 62 = .ok (.if_icmp .le 13, 3) := by decide +kernel
theorem dX5_feed_65 : decode cX5_feed 65 = .ok (.new 68, 3) := by decide +kernel
theorem dX5_feed_68 : decode cX5_feed 68 = .ok (.dup, 1) := by decide +kernel
theorem dX5_feed_69 : decode cX5_feed 69 = .ok (.ldc 70, 2) := by decide +kernel
theorem dX5_feed_71 : decode cX5_feed 71 = .ok (.invokespecial 72, 3) := by decide +kernel
theorem dX5_feed_74 : decode cX5_feed 74 = .ok (.athrow, 1) := by decide +kernel
theorem dX5_feed_75 : decode cX5_feed 75 = .ok (.aload 6, 2) := by decide +kernel
theorem dX5_feed_77 : decode cX5_feed 77 = .ok (.iload_n 2, 1) := by decide +kernel
theorem dX5_feed_78 : decode cX5_feed 78 = .ok (.invokevirtual 73, 3) := by decide +kernel
theorem dX5_feed_81 : decode cX5_feed 81 = .ok (.aload 6, 2) := by decide +kernel
theorem dX5_feed_83 : decode cX5_feed 83 = .ok (.iload_n 3, 1) := by decide +kernel
theorem dX5_feed_84 : decode cX5_feed 84 = .ok (.invokevirtual 73, 3) := by decide +kernel
theorem dX5_feed_87 : decode cX5_feed 87 = .ok (.aload 6, 2) := by decide +kernel
theorem dX5_feed_89 : decode cX5_feed 89 = .ok (.iload 4, 2) := by decide +kernel
theorem dX5_feed_91 : decode cX5_feed 91 = .ok (.invokevirtual 73, 3) := by decide +kernel
theorem dX5_feed_94 : decode cX5_feed 94 = .ok (.aload 6, 2) := by decide +kernel
theorem dX5_feed_96 : decode cX5_feed 96 = .ok (.iload 5, 2) := by decide +kernel
theorem dX5_feed_98 : decode cX5_feed 98 = .ok (.invokevirtual 73, 3) := by decide +kernel
theorem dX5_feed_101 : decode cX5_feed 101 = .ok (.aload 6, 2) := by decide +kernel
theorem dX5_feed_103 : decode cX5_feed 103 = .ok (.invokevirtual 76, 3) := by decide +kernel
theorem dX5_feed_106 : decode cX5_feed 106 = .ok (.ireturn, 1) := by decide +kernel
set_option maxRecDepth 20000 in
theorem ggX5_clear_X4_size : GoodIn wsX5_clear wsX4_size := goodIn_r _ [9, 10, 22, 23] (by decide +kernel) (by decide +kernel)
set_option maxRecDepth 20000 in
theorem gX5_clear_X4_size : GoodIn wsX5_clear (wsV RX5 76 RX4 yX4_size wsX4_size) := goodIn_app (goodIn_of _ (by decide +kernel)) ggX5_clear_X4_size
set_option maxRecDepth 20000 in
theorem ggX5_clear_X4_becomeEmpty : GoodIn wsX5_clear wsX4_becomeEmpty := goodIn_r _ [14, 10, 22, 23] (by decide +kernel) (by decide +kernel)
set_option maxRecDepth 20000 in
theorem gX5_clear_X4_becomeEmpty : GoodIn wsX5_clear (wsV RX5 79 RX4 yX4_becomeEmpty wsX4_becomeEmpty) := goodIn_app (goodIn_of _ (by decide +kernel)) ggX5_clear_X4_becomeEmpty
theorem dX5_clear_0 : decode cX5_clear 0 = .ok (.iload_n 1, 1) := by decide +kernel
theorem dX5_clear_1 : decode cX5_clear 1 = .ok (.ifCond .eq 18, 3) := by decide +kernel
theorem dX5_clear_4 : decode cX5_clear 4 = .ok (.iload_n 1, 1) := by decide +kernel
theorem dX5_clear_5 : decode cX5_clear 5 = .ok (.iconst 1, 1) := by decide +kernel
theorem dX5_clear_6 : decode cX5_clear 6 = .ok (.if_icmp .eq 13, 3) := by decide +kernel
theorem dX5_clear_9 : decode cX5_clear 9 = .ok (.new 53, 3) := by decide +kernel
theorem dX5_clear_12 : decode cX5_clear 12 = .ok (.dup, 1) := by decide +kernel
theorem dX5_clear_13 : decode cX5_clear 13 = .ok (.ldc 55, 2) := by decide +kernel
theorem dX5_clear_15 : decode cX5_clear 15 = .ok (.invokespecial 57, 3) := by decide +kernel
theorem dX5_clear_18 : decode cX5_clear 18 = .ok (.athrow, 1) := by decide +kernel
theorem dX5_clear_19 : decode cX5_clear 19 = .ok (.iload_n 1, 1) := by decide +kernel
theorem dX5_clear_20 : decode cX5_clear 20 = .ok (.ifCond .ne 10, 3) := by decide +kernel
theorem dX5_clear_23 : decode cX5_clear 23 = .ok (.aload_n 0, 1) := by decide +kernel
theorem dX5_clear_24 : decode cX5_clear 24 = .ok (.getfield 14, 3) := by decide +kernel
theorem dX5_clear_27 : decode cX5_clear 27 = .ok (.goto 7, 3) := by decide +kernel
theorem dX5_clear_30 : decode cX5_clear 30 = .ok (.aload_n 0, 1) := by decide +kernel
theorem dX5_clear_31 : decode cX5_clear 31 = .ok (.getfield 18, 3) := by decide +kernel
theorem dX5_clear_34 : decode cX5_clear 34 = .ok (.astore_n 2, 1) := by decide +kernel
theorem dX5_clear_35 : decode cX5_clear 35 = .ok (.aload_n 2, 1) := by decide +kernel
theorem dX5_clear_36 : decode cX5_clear 36 = .ok (.invokevirtual 76, 3) := by decide +kernel
theorem dX5_clear_39 : decode cX5_clear 39 = .ok (.istore_n 3, 1) := by decide +kernel
theorem dX5_clear_40 : decode cX5_clear 40 = .ok (.aload_n 2, 1) := by decide +kernel
theorem dX5_clear_41 : decode cX5_clear 41 = .ok (.invokevirtual 79, 3) := by decide +kernel
theorem dX5_clear_44 : decode cX5_clear 44 = .ok (.iload_n 3, 1) := by decide +kernel
theorem dX5_clear_45 : decode cX5_clear 45 = .ok (.ireturn, 1) := by decide +kernel
set_option maxRecDepth 20000 in
theorem ggX5_search_X0_lookFor : GoodIn wsX5_search wsX0_lookFor := goodIn_r _ [11, 12, 13, 14, 15, 16, 17, 18, 19, 20, 21, 22, 23, 24, 25, 26, 27, 28, 29, 30, 31, 32, 10, 33, 34, 35, 36, 37, 38, 39, 40, 41, 42, 43, 44, 45, 46, 47, 48, 49, 50, 51, 52, 53, 54, 55, 56, 57, 58, 70, 71, 72, 73, 74, 75, 76, 77, 78, 79] (by decide +kernel) (by decide +kernel)
set_option maxRecDepth 20000 in
theorem gX5_search_X0_lookFor : GoodIn wsX5_search (wsV RX5 89 RX0 yX0_lookFor wsX0_lookFor) := goodIn_app (goodIn_of _ (by decide +kernel)) ggX5_search_X0_lookFor
set_option maxRecDepth 20000 in
theorem ggX5_search_X0_size : GoodIn wsX5_search wsX0_size := goodIn_r _ [62, 14, 70, 71, 72, 73, 74, 75, 76, 77] (by decide +kernel) (by decide +kernel)
set_option maxRecDepth 20000 in
theorem gX5_search_X0_size : GoodIn wsX5_search (wsV RX5 93 RX0 yX0_size wsX0_size) := goodIn_app (goodIn_of _ (by decide +kernel)) ggX5_search_X0_size
theorem dX5_search_0 : decode cX5_search 0 = .ok (.iload_n 1, 1) := by decide +kernel
theorem dX5_search_1 : decode cX5_search 1 = .ok (.ifCond .lt 8, 3) := by decide +kernel
theorem dX5_search_4 : decode cX5_search 4 = .ok (.iload_n 1, 1) := by decide +kernel
theorem dX5_search_5 : decode cX5_search 5 = .ok (.iconst 2, 1) := by decide +kernel
theorem dX5_search_6 : decode cX5_search 6 = .ok (.if_icmp .le 13, 3) := by decide +kernel
theorem dX5_search_9 : decode cX5_search 9 = .ok (.new 82, 3) := by decide +kernel
theorem dX5_search_12 : decode cX5_search 12 = .ok (.dup, 1) := by decide +kernel
theorem dX5_search_13 : decode cX5_search 13 = .ok (.ldc 84, 2) := by decide +kernel
theorem dX5_search_15 : decode cX5_search 15 = .ok (.invokespecial 86, 3) := by decide +kernel
theorem dX5_search_18 : decode cX5_search 18 = .ok (.athrow, 1) := by decide +kernel
theorem dX5_search_19 : decode cX5_search 19 = .ok (.iload_n 2, 1) := by decide +kernel
theorem dX5_search_20 : decode cX5_search 20 = .ok (.ifCond .lt 10, 3) := by decide +kernel
theorem dX5_search_23 : decode cX5_search 23 = .ok (.iload_n 2, 1) := by decide +kernel
theorem dX5_search_24 : decode cX5_search 24 = .ok (.sipush 450, 3) := by decide +kernel
theorem dX5_search_27 : decode cX5_search 27 = .ok (.if_icmp .le 13, 3) := by decide +kernel
theorem dX5_search_30 : decode cX5_search 30 = .ok (.new 82, 3) := by decide +kernel
theorem dX5_search_33 : decode cX5_search 33 = .ok (.dup, 1) := by decide +kernel
theorem dX5_search_34 : decode cX5_search 34 = .ok (.ldc 87, 2) := by decide +kernel
theorem dX5_search_36 : decode cX5_search 36 = .ok (.invokespecial 86, 3) := by decide +kernel
theorem dX5_search_39 : decode cX5_search 39 = .ok (.athrow, 1) := by decide +kernel
theorem dX5_search_40 : decode cX5_search 40 = .ok (.aload_n 0, 1) := by decide +kernel
theorem dX5_search_41 : decode cX5_search 41 = .ok (.getfield 31, 3) := by decide +kernel
theorem dX5_search_44 : decode cX5_search 44 = .ok (.aload_n 0, 1) := by decide +kernel
theorem dX5_search_45 : decode cX5_search 45 = .ok (.getfield 14, 3) := by decide +kernel
theorem dX5_search_48 : decode cX5_search 48 = .ok (.aload_n 0, 1) := by decide +kernel
theorem dX5_search_49 : decode cX5_search 49 = .ok (.getfield 18, 3) := by decide +kernel
theorem dX5_search_52 : decode cX5_search 52 = .ok (.iload_n 1, 1) := by decide +kernel
theorem dX5_search_53 : decode cX5_search 53 = .ok (.iload_n 2, 1) := by decide +kernel
theorem dX5_search_54 : decode cX5_search 54 = .ok (.invokevirtual 89, 3) := by decide +kernel
theorem dX5_search_57 : decode cX5_search 57 = .ok (.aload_n 0, 1) := by decide +kernel
theorem dX5_search_58 : decode cX5_search 58 = .ok (.iconst (-1), 1) := by decide +kernel
theorem dX5_search_59 : decode cX5_search 59 = .ok (.putfield 49, 3) := by decide +kernel
theorem dX5_search_62 : decode cX5_search 62 = .ok (.aload_n 0, 1) := by decide +kernel
theorem dX5_search_63 : decode cX5_search 63 = .ok (.getfield 31, 3) := by decide +kernel
theorem dX5_search_66 : decode cX5_search 66 = .ok (.invokevirtual 93, 3) := by decide +kernel
theorem dX5_search_69 : decode cX5_search 69 = .ok (.ireturn, 1) := by decide +kernel
set_option maxRecDepth 20000 in
theorem ggX5_found_X0_size : GoodIn wsX5_found wsX0_size := goodIn_r _ [11, 12, 89, 90, 91, 92, 93, 94, 95, 96] (by decide +kernel) (by decide +kernel)
set_option maxRecDepth 20000 in
theorem gX5_found_X0_size : GoodIn wsX5_found (wsV RX5 93 RX0 yX0_size wsX0_size) := goodIn_app (goodIn_of _ (by decide +kernel)) ggX5_found_X0_size
set_option maxRecDepth 20000 in
theorem ggX5_found_X0_endOf : GoodIn wsX5_found wsX0_endOf := goodIn_r _ [16, 17, 89, 90, 91, 92, 93, 94, 95, 96] (by decide +kernel) (by decide +kernel)
set_option maxRecDepth 20000 in
theorem gX5_found_X0_endOf : GoodIn wsX5_found (wsV RX5 96 RX0 yX0_endOf wsX0_endOf) := goodIn_app (goodIn_of _ (by decide +kernel)) ggX5_found_X0_endOf
set_option maxRecDepth 20000 in
theorem ggX5_found_X0_distanceOf : GoodIn wsX5_found wsX0_distanceOf := goodIn_r _ [21, 22, 89, 90, 91, 92, 93, 94, 95, 96] (by decide +kernel) (by decide +kernel)
set_option maxRecDepth 20000 in
theorem gX5_found_X0_distanceOf : GoodIn wsX5_found (wsV RX5 99 RX0 yX0_distanceOf wsX0_distanceOf) := goodIn_app (goodIn_of _ (by decide +kernel)) ggX5_found_X0_distanceOf
set_option maxRecDepth 20000 in
theorem ggX5_found_X0_startOf : GoodIn wsX5_found wsX0_startOf := goodIn_r _ [26, 27, 89, 90, 91, 92, 93, 94, 95, 96] (by decide +kernel) (by decide +kernel)
set_option maxRecDepth 20000 in
theorem gX5_found_X0_startOf : GoodIn wsX5_found (wsV RX5 102 RX0 yX0_startOf wsX0_startOf) := goodIn_app (goodIn_of _ (by decide +kernel)) ggX5_found_X0_startOf
set_option maxRecDepth 20000 in
theorem ggX5_found_X5_writeScriptOf : GoodIn wsX5_found wsX5_writeScriptOf := goodIn_r _ [32, 33, 6, 5, 34, 35, 36, 10, 37, 38, 39, 40, 41, 42, 43, 23, 24, 25, 26, 27, 13, 14, 15, 16, 17, 44, 45, 46, 47, 48, 49, 50, 51, 52, 53, 54, 55, 56, 57, 58, 59, 60, 61, 62, 63, 64, 65, 66, 67, 68, 69, 70, 71, 72, 73, 74, 75, 76, 77, 82, 83, 84, 85, 86, 87, 88, 89, 90, 91, 92, 93, 94, 95, 96, 97, 98, 99, 100, 101] (by decide +kernel) (by decide +kernel)
set_option maxRecDepth 20000 in
theorem gX5_found_X5_writeScriptOf : GoodIn wsX5_found (wsV RX5 105 RX5 yX5_writeScriptOf wsX5_writeScriptOf) := goodIn_app (goodIn_of _ (by decide +kernel)) ggX5_found_X5_writeScriptOf
set_option maxRecDepth 20000 in
theorem ggX5_found_X3_length : GoodIn wsX5_found wsX3_length := goodIn_r _ [81, 49, 97, 98, 99] (by decide +kernel) (by decide +kernel)
set_option maxRecDepth 20000 in
theorem gX5_found_X3_length : GoodIn wsX5_found (wsV RX5 108 RX3 yX3_length wsX3_length) := goodIn_app (goodIn_of _ (by decide +kernel)) ggX5_found_X3_length
theorem dX5_found_0 : decode cX5_found 0 = .ok (.iload_n 1, 1) := by decide +kernel
theorem dX5_found_1 : decode cX5_found 1 = .ok (.ifCond .lt 14, 3) := by decide +kernel
theorem dX5_found_4 : decode cX5_found 4 = .ok (.iload_n 1, 1) := by decide +kernel
theorem dX5_found_5 : decode cX5_found 5 = .ok (.aload_n 0, 1) := by decide +kernel
theorem dX5_found_6 : decode cX5_found 6 = .ok (.getfield 31, 3) := by decide +kernel
theorem dX5_found_9 : decode cX5_found 9 = .ok (.invokevirtual 93, 3) := by decide +kernel
theorem dX5_found_12 : decode cX5_found 12 = .ok (.if_icmp .lt 13, 3) := by decide +kernel
theorem dX5_found_15 : decode cX5_found 15 = .ok (.new 53, 3) := by decide +kernel
theorem dX5_found_18 : decode cX5_found 18 = .ok (.dup, 1) := by decide +kernel
theorem dX5_found_19 : decode cX5_found 19 = .ok (.ldc 94, 2) := by decide +kernel
theorem dX5_found_21 : decode cX5_found 21 = .ok (.invokespecial 57, 3) := by decide +kernel
theorem dX5_found_24 : decode cX5_found 24 = .ok (.athrow, 1) := by decide +kernel
theorem dX5_found_25 : decode cX5_found 25 = .ok (.iload_n 2, 1) := by decide +kernel
theorem dX5_found_26 : decode cX5_found 26 = .ok (.tableswitch 70 0 3 #[30, 39, 48, 57], 30) := by decide +kernel
theorem dX5_found_56 : decode cX5_found 56 = .ok (.aload_n 0, 1) := by decide +kernel
theorem dX5_found_57 : decode cX5_found 57 = .ok (.getfield 31, 3) := by decide +kernel
theorem dX5_found_60 : decode cX5_found 60 = .ok (.iload_n 1, 1) := by decide +kernel
theorem dX5_found_61 : decode cX5_found 61 = .ok (.invokevirtual 96, 3) := by decide +kernel
theorem dX5_found_64 : decode cX5_found 64 = .ok (.ireturn, 1) := by decide +kernel
theorem dX5_found_65 : decode cX5_found 65 = .ok (.aload_n 0, 1) := by decide +kernel
theorem dX5_found_66 : decode cX5_found 66 = .ok (.getfield 31, 3) := by decide +kernel
theorem dX5_found_69 : decode cX5_found 69 = .ok (.iload_n 1, 1) := by decide +kernel
theorem dX5_found_70 : decode cX5_found 70 = .ok (.invokevirtual 99, 3) := by decide +kernel
theorem dX5_found_73 : decode cX5_found 73 = .ok (.ireturn, 1) := by decide +kernel
theorem dX5_found_74 : decode cX5_found 74 = .ok (.aload_n 0, 1) := by decide +kernel
theorem dX5_found_75 : decode cX5_found 75 = .ok (.getfield 31, 3) := by decide +kernel
theorem dX5_found_78 : decode cX5_found 78 = .ok (.iload_n 1, 1) := by decide +kernel
theorem dX5_found_79 : decode cX5_found 79 = .ok (.invokevirtual 102, 3) := by decide +kernel
theorem dX5_found_82 : decode cX5_found 82 = .ok (.ireturn, 1) := by decide +kernel
theorem dX5_found_83 : decode cX5_found 83 = .ok (.aload_n 0, 1) := by decide +kernel
theorem dX5_found_84 : decode cX5_found 84 = .ok (.iload_n 1, 1) := by decide +kernel
theorem dX5_found_85 : decode cX5_found 85 = .ok (.invokevirtual 105, 3) := by decide +kernel
theorem dX5_found_88 : decode cX5_found 88 = .ok (.aload_n 0, 1) := by decide +kernel
theorem dX5_found_89 : decode cX5_found 89 = .ok (.getfield 38, 3) := by decide +kernel
theorem dX5_found_92 : decode cX5_found 92 = .ok (.invokevirtual 108, 3) := by decide +kernel
theorem dX5_found_95 : decode cX5_found 95 = .ok (.ireturn, 1) := by decide +kernel
theorem dX5_found_96 : decode cX5_found 96 = .ok (.new 82, 3) := by decide +kernel
theorem dX5_found_99 : decode cX5_found 99 = .ok (.dup, 1) := by decide +kernel
theorem dX5_found_100 : decode cX5_found 100 = .ok (.ldc 111, 2) := by decide +kernel
theorem dX5_found_102 : decode cX5_found 102 = .ok (.invokespecial 86, 3) := by decide +kernel
theorem dX5_found_105 : decode cX5_found 105 = .ok (.athrow, 1) := by decide +kernel
set_option maxRecDepth 20000 in
theorem ggX5_step_X0_size : GoodIn wsX5_step wsX0_size := goodIn_r _ [9, 10, 86, 87, 88, 89, 90, 91, 92, 93] (by decide +kernel) (by decide +kernel)
set_option maxRecDepth 20000 in
theorem gX5_step_X0_size : GoodIn wsX5_step (wsV RX5 93 RX0 yX0_size wsX0_size) := goodIn_app (goodIn_of _ (by decide +kernel)) ggX5_step_X0_size
set_option maxRecDepth 20000 in
theorem ggX5_step_X5_writeScriptOf : GoodIn wsX5_step wsX5_writeScriptOf := goodIn_r _ [15, 16, 4, 3, 17, 18, 19, 8, 20, 21, 22, 23, 24, 25, 26, 27, 28, 29, 30, 31, 32, 33, 34, 35, 36, 37, 38, 39, 40, 41, 42, 43, 44, 45, 46, 47, 48, 49, 50, 51, 52, 53, 54, 55, 56, 57, 58, 59, 60, 61, 62, 63, 64, 65, 66, 67, 68, 69, 70, 79, 80, 81, 82, 83, 84, 85, 86, 87, 88, 89, 90, 91, 92, 93, 94, 95, 96, 97, 98] (by decide +kernel) (by decide +kernel)
set_option maxRecDepth 20000 in
theorem gX5_step_X5_writeScriptOf : GoodIn wsX5_step (wsV RX5 105 RX5 yX5_writeScriptOf wsX5_writeScriptOf) := goodIn_app (goodIn_of _ (by decide +kernel)) ggX5_step_X5_writeScriptOf
set_option maxRecDepth 20000 in
theorem ggX5_step_X3_length : GoodIn wsX5_step wsX3_length := goodIn_r _ [74, 42, 94, 95, 96] (by decide +kernel) (by decide +kernel)
set_option maxRecDepth 20000 in
theorem gX5_step_X3_length : GoodIn wsX5_step (wsV RX5 108 RX3 yX3_length wsX3_length) := goodIn_app (goodIn_of _ (by decide +kernel)) ggX5_step_X3_length
set_option maxRecDepth 20000 in
theorem ggX5_step_X3_stepAt : GoodIn wsX5_step wsX3_stepAt := goodIn_r _ [78, 43, 94, 95, 96] (by decide +kernel) (by decide +kernel)
set_option maxRecDepth 20000 in
theorem gX5_step_X3_stepAt : GoodIn wsX5_step (wsV RX5 115 RX3 yX3_stepAt wsX3_stepAt) := goodIn_app (goodIn_of _ (by decide +kernel)) ggX5_step_X3_stepAt
theorem dX5_step_0 : decode cX5_step 0 = .ok (.iload_n 1, 1) := by decide +kernel
theorem dX5_step_1 : decode cX5_step 1 = .ok (.ifCond .lt 14, 3) := by decide +kernel
theorem dX5_step_4 : decode cX5_step 4 = .ok (.iload_n 1, 1) := by decide +kernel
theorem dX5_step_5 : decode cX5_step 5 = .ok (.aload_n 0, 1) := by decide +kernel
theorem dX5_step_6 : decode cX5_step 6 = .ok (.getfield 31, 3) := by decide +kernel
theorem dX5_step_9 : decode cX5_step 9 = .ok (.invokevirtual 93, 3) := by decide +kernel
theorem dX5_step_12 : decode cX5_step 12 = .ok (.if_icmp .lt 13, 3) := by decide +kernel
theorem dX5_step_15 : decode cX5_step 15 = .ok (.new 53, 3) := by decide +kernel
theorem dX5_step_18 : decode cX5_step 18 = .ok (.dup, 1) := by decide +kernel
theorem dX5_step_19 : decode cX5_step 19 = .ok (.ldc 94, 2) := by decide +kernel
theorem dX5_step_21 : decode cX5_step 21 = .ok (.invokespecial 57, 3) := by decide +kernel
theorem dX5_step_24 : decode cX5_step 24 = .ok (.athrow, 1) := by decide +kernel
theorem dX5_step_25 : decode cX5_step 25 = .ok (.aload_n 0, 1) := by decide +kernel
theorem dX5_step_26 : decode cX5_step 26 = .ok (.iload_n 1, 1) := by decide +kernel
theorem dX5_step_27 : decode cX5_step 27 = .ok (.invokevirtual 105, 3) := by decide +kernel
theorem dX5_step_30 : decode cX5_step 30 = .ok (.iload_n 2, 1) := by decide +kernel
theorem dX5_step_31 : decode cX5_step 31 = .ok (.ifCond .lt 14, 3) := by decide +kernel
theorem dX5_step_34 : decode cX5_step 34 = .ok (.iload_n 2, 1) := by decide +kernel
theorem dX5_step_35 : decode cX5_step 35 = .ok (.aload_n 0, 1) := by decide +kernel
theorem dX5_step_36 : decode cX5_step 36 = .ok (.getfield 38, 3) := by decide +kernel
theorem dX5_step_39 : decode cX5_step 39 = .ok (.invokevirtual 108, 3) := by decide +kernel
theorem dX5_step_42 : decode cX5_step 42 = .ok (.if_icmp .lt 13, 3) := by decide +kernel
theorem dX5_step_45 : decode cX5_step 45 = .ok (.new 53, 3) := by decide +kernel
theorem dX5_step_48 : decode cX5_step 48 = .ok (.dup, 1) := by decide +kernel
theorem dX5_step_49 : decode cX5_step 49 = .ok (.ldc 113, 2) := by decide +kernel
theorem dX5_step_51 : decode cX5_step 51 = .ok (.invokespecial 57, 3) := by decide +kernel
theorem dX5_step_54 : decode cX5_step 54 = .ok (.athrow, 1) := by decide +kernel
theorem dX5_step_55 : decode cX5_step 55 = .ok (.aload_n 0, 1) := by decide +kernel
theorem dX5_step_56 : decode cX5_step 56 = .ok (.getfield 38, 3) := by decide +kernel
theorem dX5_step_59 : decode cX5_step 59 = .ok (.iload_n 2, 1) := by decide +kernel
theorem dX5_step_60 : decode cX5_step 60 = .ok (.invokevirtual 115, 3) := by decide +kernel
theorem dX5_step_63 : decode cX5_step 63 = .ok (.ireturn, 1) := by decide +kernel
set_option maxRecDepth 20000 in
theorem ggX5_least_X0_leastDistance : GoodIn wsX5_least wsX0_leastDistance := goodIn_r _ [6, 7, 8, 16, 17, 18, 19, 20, 21, 22, 23] (by decide +kernel) (by decide +kernel)
set_option maxRecDepth 20000 in
theorem gX5_least_X0_leastDistance : GoodIn wsX5_least (wsV RX5 118 RX0 yX0_leastDistance wsX0_leastDistance) := goodIn_app (goodIn_of _ (by decide +kernel)) ggX5_least_X0_leastDistance
theorem dX5_least_0 : decode cX5_least 0 = .ok (.aload_n 0, 1) := by decide +kernel
theorem dX5_least_1 : decode cX5_least 1 = .ok (.getfield 31, 3) := by decide +kernel
theorem dX5_least_4 : decode cX5_least 4 = .ok (.invokevirtual 118, 3) := by decide +kernel
theorem dX5_least_7 : decode cX5_least 7 = .ok (.ireturn, 1) := by decide +kernel
set_option maxRecDepth 20000 in
theorem ggX5_score_X2_ofKinds : GoodIn wsX5_score wsX2_ofKinds := goodIn_r _ [10, 11, 23, 24, 25] (by decide +kernel) (by decide +kernel)
set_option maxRecDepth 20000 in
theorem gX5_score_X2_ofKinds : GoodIn wsX5_score (wsV RX5 125 RX2 yX2_ofKinds wsX2_ofKinds) := goodIn_app (goodIn_of _ (by decide +kernel)) ggX5_score_X2_ofKinds
set_option maxRecDepth 20000 in
theorem ggX5_score_X2_putForKinds : GoodIn wsX5_score wsX2_putForKinds := goodIn_r _ [15, 11, 23, 24, 25] (by decide +kernel) (by decide +kernel)
set_option maxRecDepth 20000 in
theorem gX5_score_X2_putForKinds : GoodIn wsX5_score (wsV RX5 129 RX2 yX2_putForKinds wsX2_putForKinds) := goodIn_app (goodIn_of _ (by decide +kernel)) ggX5_score_X2_putForKinds
theorem dX5_score_0 : decode cX5_score 0 = .ok (.iload_n 1, 1) := by decide +kernel
theorem dX5_score_1 : decode cX5_score 1 = .ok (.ifCond .lt 19, 3) := by decide +kernel
theorem dX5_score_4 : decode cX5_score 4 = .ok (.iload_n 1, 1) := by decide +kernel
theorem dX5_score_5 : decode cX5_score 5 = .ok (.bipush 8, 2) := by decide +kernel
theorem dX5_score_7 : decode cX5_score 7 = .ok (.if_icmp .ge 13, 3) := by decide +kernel
theorem dX5_score_10 : decode cX5_score 10 = .ok (.iload_n 2, 1) := by decide +kernel
theorem dX5_score_11 : decode cX5_score 11 = .ok (.ifCond .lt 9, 3) := by decide +kernel
theorem dX5_score_14 : decode cX5_score 14 = .ok (.iload_n 2, 1) := by decide +kernel
theorem dX5_score_15 : decode cX5_score 15 = .ok (.bipush 8, 2) := by decide +kernel
theorem dX5_score_17 : decode cX5_score 17 = .ok (.if_icmp .lt 13, 3) := by decide +kernel
theorem dX5_score_20 : decode cX5_score 20 = .ok (.new 53, 3) := by decide +kernel
theorem dX5_score_23 : decode cX5_score 23 = .ok (.dup, 1) := by decide +kernel
theorem dX5_score_24 : decode cX5_score 24 = .ok (.ldc 121, 2) := by decide +kernel
theorem dX5_score_26 : decode cX5_score 26 = .ok (.invokespecial 57, 3) := by decide +kernel
theorem dX5_score_29 : decode cX5_score 29 = .ok (.athrow, 1) := by decide +kernel
theorem dX5_score_30 : decode cX5_score 30 = .ok (.iload_n 3, 1) := by decide +kernel
theorem dX5_score_31 : decode cX5_score 31 = .ok (.sipush (-1000), 3) := by decide +kernel
theorem dX5_score_34 : decode cX5_score 34 = .ok (.if_icmp .lt 10, 3) := by decide +kernel
theorem dX5_score_37 : decode cX5_score 37 = .ok (.iload_n 3, 1) := by decide +kernel
theorem dX5_score_38 : decode cX5_score 38 = .ok (.sipush 1000, 3) := by decide +kernel
theorem dX5_score_41 : decode cX5_score 41 = .ok (.if_icmp .le 13, 3) := by decide +kernel
theorem dX5_score_44 : decode cX5_score 44 = .ok (.new 82, 3) := by decide +kernel
theorem dX5_score_47 : decode cX5_score 47 = .ok (.dup, 1) := by decide +kernel
theorem dX5_score_48 : decode cX5_score 48 = .ok (.ldc 123, 2) := by decide +kernel
theorem dX5_score_50 : decode cX5_score 50 = .ok (.invokespecial 86, 3) := by decide +kernel
theorem dX5_score_53 : decode cX5_score 53 = .ok (.athrow, 1) := by decide +kernel
theorem dX5_score_54 : decode cX5_score 54 = .ok (.aload_n 0, 1) := by decide +kernel
theorem dX5_score_55 : decode cX5_score 55 = .ok (.getfield 24, 3) := by decide +kernel
theorem dX5_score_58 : decode cX5_score 58 = .ok (.iload_n 1, 1) := by decide +kernel
theorem dX5_score_59 : decode cX5_score 59 = .ok (.iload_n 2, 1) := by decide +kernel
theorem dX5_score_60 : decode cX5_score 60 = .ok (.invokevirtual 125, 3) := by decide +kernel
theorem dX5_score_63 : decode cX5_score 63 = .ok (.istore 4, 2) := by decide +kernel
theorem dX5_score_65 : decode cX5_score 65 = .ok (.aload_n 0, 1) := by decide +kernel
theorem dX5_score_66 : decode cX5_score 66 = .ok (.getfield 24, 3) := by decide +kernel
theorem dX5_score_69 : decode cX5_score 69 = .ok (.iload_n 1, 1) := by decide +kernel
theorem dX5_score_70 : decode cX5_score 70 = .ok (.iload_n 2, 1) := by decide +kernel
theorem dX5_score_71 : decode cX5_score 71 = .ok (.iload_n 3, 1) := by decide +kernel
