theorem dX5_score_72 : decode cX5_score 72 = .ok (.invokevirtual 129, 3) := by decide +kernel
theorem dX5_score_75 : decode cX5_score 75 = .ok (.iload 4, 2) := by decide +kernel
theorem dX5_score_77 : decode cX5_score 77 = .ok (.ireturn, 1) := by decide +kernel
set_option maxRecDepth 20000 in
theorem ggX5_gaps_X2_putGapCosts : GoodIn wsX5_gaps wsX2_putGapCosts := goodIn_r _ [8, 9, 10, 18, 19, 20] (by decide +kernel) (by decide +kernel)
set_option maxRecDepth 20000 in
theorem gX5_gaps_X2_putGapCosts : GoodIn wsX5_gaps (wsV RX5 137 RX2 yX2_putGapCosts wsX2_putGapCosts) := goodIn_app (goodIn_of _ (by decide +kernel)) ggX5_gaps_X2_putGapCosts
theorem dX5_gaps_0 : decode cX5_gaps 0 = .ok (.iload_n 1, 1) := by decide +kernel
theorem dX5_gaps_1 : decode cX5_gaps 1 = .ok (.ifCond .lt 10, 3) := by decide +kernel
theorem dX5_gaps_4 : decode cX5_gaps 4 = .ok (.iload_n 1, 1) := by decide +kernel
theorem dX5_gaps_5 : decode cX5_gaps 5 = .ok (.sipush 1000, 3) := by decide +kernel
theorem dX5_gaps_8 : decode cX5_gaps 8 = .ok (.if_icmp .le 13, 3) := by decide +kernel
theorem dX5_gaps_11 : decode cX5_gaps 11 = .ok (.new 82, 3) := by decide +kernel
theorem dX5_gaps_14 : decode cX5_gaps 14 = .ok (.dup, 1) := by decide +kernel
theorem dX5_gaps_15 : decode cX5_gaps 15 = .ok (.ldc 133, 2) := by decide +kernel
theorem dX5_gaps_17 : decode cX5_gaps 17 = .ok (.invokespecial 86, 3) := by decide +kernel
theorem dX5_gaps_20 : decode cX5_gaps 20 = .ok (.athrow, 1) := by decide +kernel
theorem dX5_gaps_21 : decode cX5_gaps 21 = .ok (.iload_n 2, 1) := by decide +kernel
theorem dX5_gaps_22 : decode cX5_gaps 22 = .ok (.ifCond .lt 10, 3) := by decide +kernel
theorem dX5_gaps_25 : decode cX5_gaps 25 = .ok (.iload_n 2, 1) := by decide +kernel
theorem dX5_gaps_26 : decode cX5_gaps 26 = .ok (.sipush 1000, 3) := by decide +kernel
theorem dX5_gaps_29 : decode cX5_gaps 29 = .ok (.if_icmp .le 13, 3) := by decide +kernel
theorem dX5_gaps_32 : decode cX5_gaps 32 = .ok (.new 82, 3) := by decide +kernel
theorem dX5_gaps_35 : decode cX5_gaps 35 = .ok (.dup, 1) := by decide +kernel
theorem dX5_gaps_36 : decode cX5_gaps 36 = .ok (.ldc 135, 2) := by decide +kernel
theorem dX5_gaps_38 : decode cX5_gaps 38 = .ok (.invokespecial 86, 3) := by decide +kernel
theorem dX5_gaps_41 : decode cX5_gaps 41 = .ok (.athrow, 1) := by decide +kernel
theorem dX5_gaps_42 : decode cX5_gaps 42 = .ok (.aload_n 0, 1) := by decide +kernel
theorem dX5_gaps_43 : decode cX5_gaps 43 = .ok (.getfield 24, 3) := by decide +kernel
theorem dX5_gaps_46 : decode cX5_gaps 46 = .ok (.iload_n 1, 1) := by decide +kernel
theorem dX5_gaps_47 : decode cX5_gaps 47 = .ok (.iload_n 2, 1) := by decide +kernel
theorem dX5_gaps_48 : decode cX5_gaps 48 = .ok (.invokevirtual 137, 3) := by decide +kernel
theorem dX5_gaps_51 : decode cX5_gaps 51 = .ok (.return_, 1) := by decide +kernel
set_option maxRecDepth 20000 in
theorem ggX5_fit_X1_ofWholeRows : GoodIn wsX5_fit wsX1_ofWholeRows := goodIn_r _ [11, 12, 13, 14, 15, 16, 17, 18, 19, 20, 21, 22, 23, 24, 25, 26, 27, 28, 29, 30, 31, 32, 33, 34, 35, 10, 36, 37, 38, 39, 40, 41, 42, 43, 44, 45, 46, 47, 48, 49, 50, 51, 52, 53, 76, 77, 78, 79, 80, 81, 82, 83, 84, 85] (by decide +kernel) (by decide +kernel)
set_option maxRecDepth 20000 in
theorem gX5_fit_X1_ofWholeRows : GoodIn wsX5_fit (wsV RX5 143 RX1 yX1_ofWholeRows wsX1_ofWholeRows) := goodIn_app (goodIn_of _ (by decide +kernel)) ggX5_fit_X1_ofWholeRows
set_option maxRecDepth 20000 in
theorem ggX5_fit_X1_lookForBestParts : GoodIn wsX5_fit wsX1_lookForBestParts := goodIn_r _ [57, 58, 59, 60, 12, 13, 14, 15, 16, 17, 18, 19, 20, 28, 29, 30, 31, 32, 33, 34, 35, 10, 36, 37, 38, 39, 40, 41, 42, 43, 24, 44, 26, 45, 46, 47, 48, 27, 49, 50, 51, 52, 53, 61, 62, 63, 64, 76, 77, 78, 79, 80, 81, 82, 83, 84, 85] (by decide +kernel) (by decide +kernel)
set_option maxRecDepth 20000 in
theorem gX5_fit_X1_lookForBestParts : GoodIn wsX5_fit (wsV RX5 147 RX1 yX1_lookForBestParts wsX1_lookForBestParts) := goodIn_app (goodIn_of _ (by decide +kernel)) ggX5_fit_X1_lookForBestParts
set_option maxRecDepth 20000 in
theorem ggX5_fit_X1_best : GoodIn wsX5_fit wsX1_best := goodIn_r _ [68, 58, 76, 77, 78, 79, 80] (by decide +kernel) (by decide +kernel)
set_option maxRecDepth 20000 in
theorem gX5_fit_X1_best : GoodIn wsX5_fit (wsV RX5 151 RX1 yX1_best wsX1_best) := goodIn_app (goodIn_of _ (by decide +kernel)) ggX5_fit_X1_best
theorem dX5_fit_0 : decode cX5_fit 0 = .ok (.iload_n 1, 1) := by decide +kernel
theorem dX5_fit_1 : decode cX5_fit 1 = .ok (.ifCond .eq 18, 3) := by decide +kernel
theorem dX5_fit_4 : decode cX5_fit 4 = .ok (.iload_n 1, 1) := by decide +kernel
theorem dX5_fit_5 : decode cX5_fit 5 = .ok (.iconst 1, 1) := by decide +kernel
theorem dX5_fit_6 : decode cX5_fit 6 = .ok (.if_icmp .eq 13, 3) := by decide +kernel
theorem dX5_fit_9 : decode cX5_fit 9 = .ok (.new 82, 3) := by decide +kernel
theorem dX5_fit_12 : decode cX5_fit 12 = .ok (.dup, 1) := by decide +kernel
theorem dX5_fit_13 : decode cX5_fit 13 = .ok (.ldc 141, 2) := by decide +kernel
theorem dX5_fit_15 : decode cX5_fit 15 = .ok (.invokespecial 86, 3) := by decide +kernel
theorem dX5_fit_18 : decode cX5_fit 18 = .ok (.athrow, 1) := by decide +kernel
theorem dX5_fit_19 : decode cX5_fit 19 = .ok (.iload_n 1, 1) := by decide +kernel
theorem dX5_fit_20 : decode cX5_fit 20 = .ok (.ifCond .ne 23, 3) := by decide +kernel
theorem dX5_fit_23 : decode cX5_fit 23 = .ok (.aload_n 0, 1) := by decide +kernel
theorem dX5_fit_24 : decode cX5_fit 24 = .ok (.getfield 45, 3) := by decide +kernel
theorem dX5_fit_27 : decode cX5_fit 27 = .ok (.aload_n 0, 1) := by decide +kernel
theorem dX5_fit_28 : decode cX5_fit 28 = .ok (.getfield 14, 3) := by decide +kernel
theorem dX5_fit_31 : decode cX5_fit 31 = .ok (.aload_n 0, 1) := by decide +kernel
theorem dX5_fit_32 : decode cX5_fit 32 = .ok (.getfield 18, 3) := by decide +kernel
theorem dX5_fit_35 : decode cX5_fit 35 = .ok (.aload_n 0, 1) := by decide +kernel
theorem dX5_fit_36 : decode cX5_fit 36 = .ok (.getfield 24, 3) := by decide +kernel
theorem dX5_fit_39 : decode cX5_fit 39 = .ok (.invokevirtual 143, 3) := by decide +kernel
theorem dX5_fit_42 : decode cX5_fit 42 = .ok (.ireturn, 1) := by decide +kernel
theorem dX5_fit_43 : decode cX5_fit 43 = .ok (.aload_n 0, 1) := by decide +kernel
theorem dX5_fit_44 : decode cX5_fit 44 = .ok (.getfield 45, 3) := by decide +kernel
theorem dX5_fit_47 : decode cX5_fit 47 = .ok (.aload_n 0, 1) := by decide +kernel
theorem dX5_fit_48 : decode cX5_fit 48 = .ok (.getfield 14, 3) := by decide +kernel
theorem dX5_fit_51 : decode cX5_fit 51 = .ok (.aload_n 0, 1) := by decide +kernel
theorem dX5_fit_52 : decode cX5_fit 52 = .ok (.getfield 18, 3) := by decide +kernel
theorem dX5_fit_55 : decode cX5_fit 55 = .ok (.aload_n 0, 1) := by decide +kernel
theorem dX5_fit_56 : decode cX5_fit 56 = .ok (.getfield 24, 3) := by decide +kernel
theorem dX5_fit_59 : decode cX5_fit 59 = .ok (.invokevirtual 147, 3) := by decide +kernel
theorem dX5_fit_62 : decode cX5_fit 62 = .ok (.aload_n 0, 1) := by decide +kernel
theorem dX5_fit_63 : decode cX5_fit 63 = .ok (.getfield 45, 3) := by decide +kernel
theorem dX5_fit_66 : decode cX5_fit 66 = .ok (.invokevirtual 151, 3) := by decide +kernel
theorem dX5_fit_69 : decode cX5_fit 69 = .ok (.ireturn, 1) := by decide +kernel
set_option maxRecDepth 20000 in
theorem ggX5_count_X4_size : GoodIn wsX5_count wsX4_size := goodIn_r _ [12, 13, 80, 81] (by decide +kernel) (by decide +kernel)
set_option maxRecDepth 20000 in
theorem gX5_count_X4_size : GoodIn wsX5_count (wsV RX5 76 RX4 yX4_size wsX4_size) := goodIn_app (goodIn_of _ (by decide +kernel)) ggX5_count_X4_size
set_option maxRecDepth 20000 in
theorem ggX5_count_X0_size : GoodIn wsX5_count wsX0_size := goodIn_r _ [18, 19, 82, 83, 84, 85, 86, 87, 88, 89] (by decide +kernel) (by decide +kernel)
set_option maxRecDepth 20000 in
theorem gX5_count_X0_size : GoodIn wsX5_count (wsV RX5 93 RX0 yX0_size wsX0_size) := goodIn_app (goodIn_of _ (by decide +kernel)) ggX5_count_X0_size
set_option maxRecDepth 20000 in
theorem ggX5_count_X1_lookForBestParts : GoodIn wsX5_count wsX1_lookForBestParts := goodIn_r _ [24, 25, 26, 27, 28, 29, 30, 31, 9, 10, 11, 12, 13, 32, 33, 34, 35, 36, 37, 38, 39, 23, 40, 41, 42, 43, 44, 45, 46, 47, 48, 49, 50, 51, 52, 53, 54, 55, 56, 57, 58, 59, 60, 61, 62, 63, 64, 90, 91, 92, 93, 94, 80, 81, 95, 96, 97] (by decide +kernel) (by decide +kernel)
set_option maxRecDepth 20000 in
theorem gX5_count_X1_lookForBestParts : GoodIn wsX5_count (wsV RX5 147 RX1 yX1_lookForBestParts wsX1_lookForBestParts) := goodIn_app (goodIn_of _ (by decide +kernel)) ggX5_count_X1_lookForBestParts
set_option maxRecDepth 20000 in
theorem ggX5_count_X1_bestEndInPattern : GoodIn wsX5_count wsX1_bestEndInPattern := goodIn_r _ [68, 26, 90, 91, 92, 93, 94] (by decide +kernel) (by decide +kernel)
set_option maxRecDepth 20000 in
theorem gX5_count_X1_bestEndInPattern : GoodIn wsX5_count (wsV RX5 154 RX1 yX1_bestEndInPattern wsX1_bestEndInPattern) := goodIn_app (goodIn_of _ (by decide +kernel)) ggX5_count_X1_bestEndInPattern
set_option maxRecDepth 20000 in
theorem ggX5_count_X1_bestEndInText : GoodIn wsX5_count wsX1_bestEndInText := goodIn_r _ [72, 27, 90, 91, 92, 93, 94] (by decide +kernel) (by decide +kernel)
set_option maxRecDepth 20000 in
theorem gX5_count_X1_bestEndInText : GoodIn wsX5_count (wsV RX5 157 RX1 yX1_bestEndInText wsX1_bestEndInText) := goodIn_app (goodIn_of _ (by decide +kernel)) ggX5_count_X1_bestEndInText
theorem dX5_count_0 : decode cX5_count 0 = .ok (.iload_n 1, 1) := by decide +kernel
theorem dX5_count_1 : decode cX5_count 1 = .ok (.tableswitch 113 0 4 #[35, 43, 51, 59, 86], 35) := by decide +kernel
theorem dX5_count_36 : decode cX5_count 36 = .ok (.aload_n 0, 1) := by decide +kernel
theorem dX5_count_37 : decode cX5_count 37 = .ok (.getfield 14, 3) := by decide +kernel
theorem dX5_count_40 : decode cX5_count 40 = .ok (.invokevirtual 76, 3) := by decide +kernel
theorem dX5_count_43 : decode cX5_count 43 = .ok (.ireturn, 1) := by decide +kernel
theorem dX5_count_44 : decode cX5_count 44 = .ok (.aload_n 0, 1) := by decide +kernel
theorem dX5_count_45 : decode cX5_count 45 = .ok (.getfield 18, 3) := by decide +kernel
theorem dX5_count_48 : decode cX5_count 48 = .ok (.invokevirtual 76, 3) := by decide +kernel
theorem dX5_count_51 : decode cX5_count 51 = .ok (.ireturn, 1) := by decide +kernel
theorem dX5_count_52 : decode cX5_count 52 = .ok (.aload_n 0, 1) := by decide +kernel
theorem dX5_count_53 : decode cX5_count 53 = .ok (.getfield 31, 3) := by decide +kernel
theorem dX5_count_56 : decode cX5_count 56 = .ok (.invokevirtual 93, 3) := by decide +kernel
theorem dX5_count_59 : decode cX5_count 59 = .ok (.ireturn, 1) := by decide +kernel
theorem dX5_count_60 : decode cX5_count 60 = .ok (.aload_n 0, 1) := by decide +kernel
theorem dX5_count_61 : decode cX5_count 61 = .ok (.getfield 45, 3) := by decide +kernel
theorem dX5_count_64 : decode cX5_count 64 = .ok (.aload_n 0, 1) := by decide +kernel
theorem dX5_count_65 : decode cX5_count 65 = .ok (.getfield 14, 3) := by decide +kernel
theorem dX5_count_68 : decode cX5_count 68 = .ok (.aload_n 0, 1) := by decide +kernel
theorem dX5_count_69 : decode cX5_count 69 = .ok (.getfield 18, 3) := by decide +kernel
theorem dX5_count_72 : decode cX5_count 72 = .ok (.aload_n 0, 1) := by decide +kernel
theorem dX5_count_73 : decode cX5_count 73 = .ok (.getfield 24, 3) := by decide +kernel
theorem dX5_count_76 : decode cX5_count 76 = .ok (.invokevirtual 147, 3) := by decide +kernel
theorem dX5_count_79 : decode cX5_count 79 = .ok (.aload_n 0, 1) := by decide +kernel
theorem dX5_count_80 : decode cX5_count 80 = .ok (.getfield 45, 3) := by decide +kernel
theorem dX5_count_83 : decode cX5_count 83 = .ok (.invokevirtual 154, 3) := by decide +kernel
theorem dX5_count_86 : decode cX5_count 86 = .ok (.ireturn, 1) := by decide +kernel
theorem dX5_count_87 : decode cX5_count 87 = .ok (.aload_n 0, 1) := by decide +kernel
theorem dX5_count_88 : decode cX5_count 88 = .ok (.getfield 45, 3) := by decide +kernel
theorem dX5_count_91 : decode cX5_count 91 = .ok (.aload_n 0, 1) := by decide +kernel
theorem dX5_count_92 : decode cX5_count 92 = .ok (.getfield 14, 3) := by decide +kernel
theorem dX5_count_95 : decode cX5_count 95 = .ok (.aload_n 0, 1) := by decide +kernel
theorem dX5_count_96 : decode cX5_count 96 = .ok (.getfield 18, 3) := by decide +kernel
theorem dX5_count_99 : decode cX5_count 99 = .ok (.aload_n 0, 1) := by decide +kernel
theorem dX5_count_100 : decode cX5_count 100 = .ok (.getfield 24, 3) := by decide +kernel
theorem dX5_count_103 : decode cX5_count 103 = .ok (.invokevirtual 147, 3) := by decide +kernel
theorem dX5_count_106 : decode cX5_count 106 = .ok (.aload_n 0, 1) := by decide +kernel
theorem dX5_count_107 : decode cX5_count 107 = .ok (.getfield 45, 3) := by decide +kernel
theorem dX5_count_110 : decode cX5_count 110 = .ok (.invokevirtual 157, 3) := by decide +kernel
theorem dX5_count_113 : decode cX5_count 113 = .ok (.ireturn, 1) := by decide +kernel
theorem dX5_count_114 : decode cX5_count 114 = .ok (.new 82, 3) := by decide +kernel
theorem dX5_count_117 : decode cX5_count 117 = .ok (.dup, 1) := by decide +kernel
theorem dX5_count_118 : decode cX5_count 118 = .ok (.ldc 160, 2) := by decide +kernel
theorem dX5_count_120 : decode cX5_count 120 = .ok (.invokespecial 86, 3) := by decide +kernel
theorem dX5_count_123 : decode cX5_count 123 = .ok (.athrow, 1) := by decide +kernel
set_option maxRecDepth 20000 in
theorem ggX5_writeScriptOf_X0_searchedPattern : GoodIn wsX5_writeScriptOf wsX0_searchedPattern := goodIn_r _ [8, 9, 66, 67, 68, 69, 70, 71, 72, 73] (by decide +kernel) (by decide +kernel)
set_option maxRecDepth 20000 in
theorem gX5_writeScriptOf_X0_searchedPattern : GoodIn wsX5_writeScriptOf (wsV RX5 162 RX0 yX0_searchedPattern wsX0_searchedPattern) := goodIn_app (goodIn_of _ (by decide +kernel)) ggX5_writeScriptOf_X0_searchedPattern
set_option maxRecDepth 20000 in
theorem ggX5_writeScriptOf_X0_searchedText : GoodIn wsX5_writeScriptOf wsX0_searchedText := goodIn_r _ [13, 14, 66, 67, 68, 69, 70, 71, 72, 73] (by decide +kernel) (by decide +kernel)
set_option maxRecDepth 20000 in
theorem gX5_writeScriptOf_X0_searchedText : GoodIn wsX5_writeScriptOf (wsV RX5 166 RX0 yX0_searchedText wsX0_searchedText) := goodIn_app (goodIn_of _ (by decide +kernel)) ggX5_writeScriptOf_X0_searchedText
set_option maxRecDepth 20000 in
theorem ggX5_writeScriptOf_X0_startOf : GoodIn wsX5_writeScriptOf wsX0_startOf := goodIn_r _ [18, 19, 66, 67, 68, 69, 70, 71, 72, 73] (by decide +kernel) (by decide +kernel)
set_option maxRecDepth 20000 in
theorem gX5_writeScriptOf_X0_startOf : GoodIn wsX5_writeScriptOf (wsV RX5 102 RX0 yX0_startOf wsX0_startOf) := goodIn_app (goodIn_of _ (by decide +kernel)) ggX5_writeScriptOf_X0_startOf
set_option maxRecDepth 20000 in
theorem ggX5_writeScriptOf_X0_endOf : GoodIn wsX5_writeScriptOf wsX0_endOf := goodIn_r _ [23, 24, 66, 67, 68, 69, 70, 71, 72, 73] (by decide +kernel) (by decide +kernel)
set_option maxRecDepth 20000 in
theorem gX5_writeScriptOf_X0_endOf : GoodIn wsX5_writeScriptOf (wsV RX5 96 RX0 yX0_endOf wsX0_endOf) := goodIn_app (goodIn_of _ (by decide +kernel)) ggX5_writeScriptOf_X0_endOf
set_option maxRecDepth 20000 in
theorem ggX5_writeScriptOf_X3_write : GoodIn wsX5_writeScriptOf wsX3_write := goodIn_r _ [29, 30, 31, 32, 33, 34, 28, 35, 36, 37, 38, 39, 40, 41, 42, 43, 44, 45, 46, 47, 48, 49, 50, 51, 52, 53, 54, 55, 56, 57, 58, 74, 75, 76, 77, 78] (by decide +kernel) (by decide +kernel)
set_option maxRecDepth 20000 in
theorem gX5_writeScriptOf_X3_write : GoodIn wsX5_writeScriptOf (wsV RX5 169 RX3 yX3_write wsX3_write) := goodIn_app (goodIn_of _ (by decide +kernel)) ggX5_writeScriptOf_X3_write
theorem dX5_writeScriptOf_0 : decode cX5_writeScriptOf 0 = .ok (.aload_n 0, 1) := by decide +kernel
theorem dX5_writeScriptOf_1 : decode cX5_writeScriptOf 1 = .ok (.getfield 49, 3) := by decide +kernel
theorem dX5_writeScriptOf_4 : decode cX5_writeScriptOf 4 = .ok (.iload_n 1, 1) := by decide +kernel
theorem dX5_writeScriptOf_5 : decode cX5_writeScriptOf 5 = .ok (.if_icmp .eq 45, 3) := by decide +kernel
theorem dX5_writeScriptOf_8 : decode cX5_writeScriptOf 8 = .ok (.aload_n 0, 1) := by decide +kernel
theorem dX5_writeScriptOf_9 : decode cX5_writeScriptOf 9 = .ok (.getfield 38, 3) := by decide +kernel
theorem dX5_writeScriptOf_12 : decode cX5_writeScriptOf 12 = .ok (.aload_n 0, 1) := by decide +kernel
theorem dX5_writeScriptOf_13 : decode cX5_writeScriptOf 13 = .ok (.getfield 31, 3) := by decide +kernel
theorem dX5_writeScriptOf_16 : decode cX5_writeScriptOf 16 = .ok (.invokevirtual 162, 3) := by decide +kernel
theorem dX5_writeScriptOf_19 : decode cX5_writeScriptOf 19 = .ok (.aload_n 0, 1) := by decide +kernel
theorem dX5_writeScriptOf_20 : decode cX5_writeScriptOf 20 = .ok (.getfield 31, 3) := by decide +kernel
theorem dX5_writeScriptOf_23 : decode cX5_writeScriptOf 23 = .ok (.invokevirtual 166, 3) := by decide +kernel
theorem dX5_writeScriptOf_26 : decode cX5_writeScriptOf 26 = .ok (.aload_n 0, 1) := by decide +kernel
theorem dX5_writeScriptOf_27 : decode cX5_writeScriptOf 27 = .ok (.getfield 31, 3) := by decide +kernel
theorem dX5_writeScriptOf_30 : decode cX5_writeScriptOf 30 = .ok (.iload_n 1, 1) := by decide +kernel
theorem dX5_writeScriptOf_31 : decode cX5_writeScriptOf 31 = .ok (.invokevirtual 102, 3) := by decide +kernel
theorem dX5_writeScriptOf_34 : decode cX5_writeScriptOf 34 = .ok (.aload_n 0, 1) := by decide +kernel
theorem dX5_writeScriptOf_35 : decode cX5_writeScriptOf 35 = .ok (.getfield 31, 3) := by decide +kernel
theorem dX5_writeScriptOf_38 : decode cX5_writeScriptOf 38 = .ok (.iload_n 1, 1) := by decide +kernel
theorem dX5_writeScriptOf_39 : decode cX5_writeScriptOf 39 = .ok (.invokevirtual 96, 3) := by decide +kernel
theorem dX5_writeScriptOf_42 : decode cX5_writeScriptOf 42 = .ok (.invokevirtual 169, 3) := by decide +kernel
theorem dX5_writeScriptOf_45 : decode cX5_writeScriptOf 45 = .ok (.aload_n 0, 1) := by decide +kernel
theorem dX5_writeScriptOf_46 : decode cX5_writeScriptOf 46 = .ok (.iload_n 1, 1) := by decide +kernel
theorem dX5_writeScriptOf_47 : decode cX5_writeScriptOf 47 = .ok (.putfield 49, 3) := by decide +kernel
theorem dX5_writeScriptOf_50 : decode cX5_writeScriptOf 50 = .ok (.return_, 1) := by decide +kernel
theorem dX5_signsIn_0 : decode cX5_signsIn 0 = .ok (.iconst 0, 1) := by decide +kernel
theorem dX5_signsIn_1 : decode cX5_signsIn 1 = .ok (.istore_n 1, 1) := by decide +kernel
theorem dX5_signsIn_2 : decode cX5_signsIn 2 = .ok (.iconst 0, 1) := by decide +kernel
theorem dX5_signsIn_3 : decode cX5_signsIn 3 = .ok (.istore_n 2, 1) := by decide +kernel
theorem dX5_signsIn_4 : decode cX5_signsIn 4 = .ok (.iload_n 2, 1) := by decide +kernel
theorem dX5_signsIn_5 : decode cX5_signsIn 5 = .ok (.bipush 32, 2) := by decide +kernel
theorem dX5_signsIn_7 : decode cX5_signsIn 7 = .ok (.if_icmp .ge 22, 3) := by decide +kernel
theorem dX5_signsIn_10 : decode cX5_signsIn 10 = .ok (.iload_n 0, 1) := by decide +kernel
theorem dX5_signsIn_11 : decode cX5_signsIn 11 = .ok (.iload_n 2, 1) := by decide +kernel
theorem dX5_signsIn_12 : decode cX5_signsIn 12 = .ok (.iushr, 1) := by decide +kernel
theorem dX5_signsIn_13 : decode cX5_signsIn 13 = .ok (.sipush 255, 3) := by decide +kernel
theorem dX5_signsIn_16 : decode cX5_signsIn 16 = .ok (.iand, 1) := by decide +kernel
theorem dX5_signsIn_17 : decode cX5_signsIn 17 = .ok (.ifCond .eq 6, 3) := by decide +kernel
theorem dX5_signsIn_20 : decode cX5_signsIn 20 = .ok (.iinc 1 1, 3) := by decide +kernel
theorem dX5_signsIn_23 : decode cX5_signsIn 23 = .ok (.iinc 2 8, 3) := by decide +kernel
theorem dX5_signsIn_26 : decode cX5_signsIn 26 = .ok (.goto (-22), 3) := by decide +kernel
theorem dX5_signsIn_29 : decode cX5_signsIn 29 = .ok (.iload_n 1, 1) := by decide +kernel
theorem dX5_signsIn_30 : decode cX5_signsIn 30 = .ok (.ireturn, 1) := by decide +kernel
theorem dX6_init_0 : decode cX6_init 0 = .ok (.aload_n 0, 1) := by decide +kernel
theorem dX6_init_1 : decode cX6_init 1 = .ok (.invokespecial 1, 3) := by decide +kernel
theorem dX6_init_4 : decode cX6_init 4 = .ok (.aload_n 0, 1) := by decide +kernel
theorem dX6_init_5 : decode cX6_init 5 = .ok (.sipush 150, 3) := by decide +kernel
theorem dX6_init_8 : decode cX6_init 8 = .ok (.newarray .int, 2) := by decide +kernel
theorem dX6_init_10 : decode cX6_init 10 = .ok (.putfield 7, 3) := by decide +kernel
theorem dX6_init_13 : decode cX6_init 13 = .ok (.aload_n 0, 1) := by decide +kernel
theorem dX6_init_14 : decode cX6_init 14 = .ok (.sipush 300, 3) := by decide +kernel
theorem dX6_init_17 : decode cX6_init 17 = .ok (.newarray .int, 2) := by decide +kernel
theorem dX6_init_19 : decode cX6_init 19 = .ok (.putfield 13, 3) := by decide +kernel
theorem dX6_init_22 : decode cX6_init 22 = .ok (.aload_n 0, 1) := by decide +kernel
theorem dX6_init_23 : decode cX6_init 23 = .ok (.sipush 150, 3) := by decide +kernel
theorem dX6_init_26 : decode cX6_init 26 = .ok (.newarray .int, 2) := by decide +kernel
theorem dX6_init_28 : decode cX6_init 28 = .ok (.putfield 16, 3) := by decide +kernel
theorem dX6_init_31 : decode cX6_init 31 = .ok (.aload_n 0, 1) := by decide +kernel
theorem dX6_init_32 : decode cX6_init 32 = .ok (.sipush 300, 3) := by decide +kernel
theorem dX6_init_35 : decode cX6_init 35 = .ok (.newarray .int, 2) := by decide +kernel
theorem dX6_init_37 : decode cX6_init 37 = .ok (.putfield 19, 3) := by decide +kernel
theorem dX6_init_40 : decode cX6_init 40 = .ok (.aload_n 0, 1) := by decide +kernel
theorem dX6_init_41 : decode cX6_init 41 = .ok (.sipush 301, 3) := by decide +kernel
theorem dX6_init_44 : decode cX6_init 44 = .ok (.newarray .int, 2) := by decide +kernel
theorem dX6_init_46 : decode cX6_init 46 = .ok (.putfield 22, 3) := by decide +kernel
theorem dX6_init_49 : decode cX6_init 49 = .ok (.aload_n 0, 1) := by decide +kernel
theorem dX6_init_50 : decode cX6_init 50 = .ok (.sipush 301, 3) := by decide +kernel
theorem dX6_init_53 : decode cX6_init 53 = .ok (.newarray .int, 2) := by decide +kernel
theorem dX6_init_55 : decode cX6_init 55 = .ok (.putfield 25, 3) := by decide +kernel
theorem dX6_init_58 : decode cX6_init 58 = .ok (.aload_n 0, 1) := by decide +kernel
theorem dX6_init_59 : decode cX6_init 59 = .ok (.sipush 301, 3) := by decide +kernel
theorem dX6_init_62 : decode cX6_init 62 = .ok (.newarray .int, 2) := by decide +kernel
theorem dX6_init_64 : decode cX6_init 64 = .ok (.putfield 28, 3) := by decide +kernel
theorem dX6_init_67 : decode cX6_init 67 = .ok (.aload_n 0, 1) := by decide +kernel
theorem dX6_init_68 : decode cX6_init 68 = .ok (.sipush 151, 3) := by decide +kernel
theorem dX6_init_71 : decode cX6_init 71 = .ok (.newarray .int, 2) := by decide +kernel
theorem dX6_init_73 : decode cX6_init 73 = .ok (.putfield 31, 3) := by decide +kernel
theorem dX6_init_76 : decode cX6_init 76 = .ok (.aload_n 0, 1) := by decide +kernel
theorem dX6_init_77 : decode cX6_init 77 = .ok (.sipush 151, 3) := by decide +kernel
theorem dX6_init_80 : decode cX6_init 80 = .ok (.newarray .int, 2) := by decide +kernel
theorem dX6_init_82 : decode cX6_init 82 = .ok (.putfield 34, 3) := by decide +kernel
theorem dX6_init_85 : decode cX6_init 85 = .ok (.aload_n 0, 1) := by decide +kernel
theorem dX6_init_86 : decode cX6_init 86 = .ok (.sipush 151, 3) := by decide +kernel
theorem dX6_init_89 : decode cX6_init 89 = .ok (.newarray .int, 2) := by decide +kernel
theorem dX6_init_91 : decode cX6_init 91 = .ok (.putfield 37, 3) := by decide +kernel
theorem dX6_init_94 : decode cX6_init 94 = .ok (.aload_n 0, 1) := by decide +kernel
theorem dX6_init_95 : decode cX6_init 95 = .ok (.sipush 151, 3) := by decide +kernel
theorem dX6_init_98 : decode cX6_init 98 = .ok (.newarray .int, 2) := by decide +kernel
theorem dX6_init_100 : decode cX6_init 100 = .ok (.putfield 40, 3) := by decide +kernel
theorem dX6_init_103 : decode cX6_init 103 = .ok (.aload_n 0, 1) := by decide +kernel
theorem dX6_init_104 : decode cX6_init 104 = .ok (.ldc 43, 2) := by decide +kernel
theorem dX6_init_106 : decode cX6_init 106 = .ok (.newarray .int, 2) := by decide +kernel
theorem dX6_init_108 : decode cX6_init 108 = .ok (.putfield 44, 3) := by decide +kernel
theorem dX6_init_111 : decode cX6_init 111 = .ok (.aload_n 0, 1) := by decide +kernel
theorem dX6_init_112 : decode cX6_init 112 = .ok (.sipush 451, 3) := by decide +kernel
theorem dX6_init_115 : decode cX6_init 115 = .ok (.newarray .int, 2) := by decide +kernel
theorem dX6_init_117 : decode cX6_init 117 = .ok (.putfield 47, 3) := by decide +kernel
theorem dX6_init_120 : decode cX6_init 120 = .ok (.aload_n 0, 1) := by decide +kernel
theorem dX6_init_121 : decode cX6_init 121 = .ok (.bipush 64, 2) := by decide +kernel
theorem dX6_init_123 : decode cX6_init 123 = .ok (.newarray .int, 2) := by decide +kernel
theorem dX6_init_125 : decode cX6_init 125 = .ok (.putfield 50, 3) := by decide +kernel
theorem dX6_init_128 : decode cX6_init 128 = .ok (.aload_n 0, 1) := by decide +kernel
theorem dX6_init_129 : decode cX6_init 129 = .ok (.iconst 2, 1) := by decide +kernel
theorem dX6_init_130 : decode cX6_init 130 = .ok (.putfield 53, 3) := by decide +kernel
theorem dX6_init_133 : decode cX6_init 133 = .ok (.aload_n 0, 1) := by decide +kernel
theorem dX6_init_134 : decode cX6_init 134 = .ok (.iconst 1, 1) := by decide +kernel
theorem dX6_init_135 : decode cX6_init 135 = .ok (.putfield 57, 3) := by decide +kernel
theorem dX6_init_138 : decode cX6_init 138 = .ok (.aload_n 0, 1) := by decide +kernel
theorem dX6_init_139 : decode cX6_init 139 = .ok (.sipush 301, 3) := by decide +kernel
theorem dX6_init_142 : decode cX6_init 142 = .ok (.newarray .int, 2) := by decide +kernel
theorem dX6_init_144 : decode cX6_init 144 = .ok (.putfield 60, 3) := by decide +kernel
theorem dX6_init_147 : decode cX6_init 147 = .ok (.aload_n 0, 1) := by decide +kernel
theorem dX6_init_148 : decode cX6_init 148 = .ok (.sipush 301, 3) := by decide +kernel
theorem dX6_init_151 : decode cX6_init 151 = .ok (.newarray .int, 2) := by decide +kernel
theorem dX6_init_153 : decode cX6_init 153 = .ok (.putfield 63, 3) := by decide +kernel
theorem dX6_init_156 : decode cX6_init 156 = .ok (.aload_n 0, 1) := by decide +kernel
theorem dX6_init_157 : decode cX6_init 157 = .ok (.sipush 301, 3) := by decide +kernel
theorem dX6_init_160 : decode cX6_init 160 = .ok (.newarray .int, 2) := by decide +kernel
theorem dX6_init_162 : decode cX6_init 162 = .ok (.putfield 66, 3) := by decide +kernel
theorem dX6_init_165 : decode cX6_init 165 = .ok (.iconst 0, 1) := by decide +kernel
theorem dX6_init_166 : decode cX6_init 166 = .ok (.istore_n 1, 1) := by decide +kernel
theorem dX6_init_167 : decode cX6_init 167 = .ok (.iload_n 1, 1) := by decide +kernel
theorem dX6_init_168 : decode cX6_init 168 = .ok (.bipush 64, 2) := by decide +kernel
theorem dX6_init_170 : decode cX6_init 170 = .ok (.if_icmp .ge 31, 3) := by decide +kernel
theorem dX6_init_173 : decode cX6_init 173 = .ok (.aload_n 0, 1) := by decide +kernel
theorem dX6_init_174 : decode cX6_init 174 = .ok (.getfield 50, 3) := by decide +kernel
theorem dX6_init_177 : decode cX6_init 177 = .ok (.iload_n 1, 1) := by decide +kernel
theorem dX6_init_178 : decode cX6_init 178 = .ok (.iload_n 1, 1) := by decide +kernel
theorem dX6_init_179 : decode cX6_init 179 = .ok (.bipush 8, 2) := by decide +kernel
theorem dX6_init_181 : decode cX6_init 181 = .ok (.idiv, 1) := by decide +kernel
theorem dX6_init_182 : decode cX6_init 182 = .ok (.iload_n 1, 1) := by decide +kernel
theorem dX6_init_183 : decode cX6_init 183 = .ok (.bipush 8, 2) := by decide +kernel
theorem dX6_init_185 : decode cX6_init 185 = .ok (.irem, 1) := by decide +kernel
theorem dX6_init_186 : decode cX6_init 186 = .ok (.if_icmp .ne 7, 3) := by decide +kernel
theorem dX6_init_189 : decode cX6_init 189 = .ok (.iconst 1, 1) := by decide +kernel
theorem dX6_init_190 : decode cX6_init 190 = .ok (.goto 4, 3) := by decide +kernel
theorem dX6_init_193 : decode cX6_init 193 = .ok (.iconst (-1), 1) := by decide +kernel
theorem dX6_init_194 : decode cX6_init 194 = .ok (.iastore, 1) := by decide +kernel
theorem dX6_init_195 : decode cX6_init 195 = .ok (.iinc 1 1, 3) := by decide +kernel
theorem dX6_init_198 : decode cX6_init 198 = .ok (.goto (-31), 3) := by decide +kernel
theorem dX6_init_201 : decode cX6_init 201 = .ok (.return_, 1) := by decide +kernel
theorem dX6_thrown_0 : decode cX6_thrown 0 = .ok (.aload_n 0, 1) := by decide +kernel
theorem dX6_thrown_1 : decode cX6_thrown 1 = .ok (.getfield 69, 3) := by decide +kernel
theorem dX6_thrown_4 : decode cX6_thrown 4 = .ok (.ireturn, 1) := by decide +kernel
theorem dX6_goes_0 : decode cX6_goes 0 = .ok (.aload_n 0, 1) := by decide +kernel
theorem dX6_goes_1 : decode cX6_goes 1 = .ok (.iload_n 1, 1) := by decide +kernel
theorem dX6_goes_2 : decode cX6_goes 2 = .ok (.ifCond .ne 7, 3) := by decide +kernel
theorem dX6_goes_5 : decode cX6_goes 5 = .ok (.iconst 1, 1) := by decide +kernel
theorem dX6_goes_6 : decode cX6_goes 6 = .ok (.goto 12, 3) := by decide +kernel
theorem dX6_goes_9 : decode cX6_goes 9 = .ok (.iload_n 2, 1) := by decide +kernel
theorem dX6_goes_10 : decode cX6_goes 10 = .ok (.ifCond .ne 7, 3) := by decide +kernel
theorem dX6_goes_13 : decode cX6_goes 13 = .ok (.iconst 2, 1) := by decide +kernel
theorem dX6_goes_14 : decode cX6_goes 14 = .ok (.goto 4, 3) := by decide +kernel
theorem dX6_goes_17 : decode cX6_goes 17 = .ok (.iconst 0, 1) := by decide +kernel
theorem dX6_goes_18 : decode cX6_goes 18 = .ok (.putfield 69, 3) := by decide +kernel
theorem dX6_goes_21 : decode cX6_goes 21 = .ok (.aload_n 0, 1) := by decide +kernel
theorem dX6_goes_22 : decode cX6_goes 22 = .ok (.getfield 69, 3) := by decide +kernel
theorem dX6_goes_25 : decode cX6_goes 25 = .ok (.ifCond .ne 7, 3) := by decide +kernel
theorem dX6_goes_28 : decode cX6_goes 28 = .ok (.iconst 1, 1) := by decide +kernel
theorem dX6_goes_29 : decode cX6_goes 29 = .ok (.goto 4, 3) := by decide +kernel
theorem dX6_goes_32 : decode cX6_goes 32 = .ok (.iconst 0, 1) := by decide +kernel
theorem dX6_goes_33 : decode cX6_goes 33 = .ok (.ireturn, 1) := by decide +kernel
theorem dX6_signsOf_0 : decode cX6_signsOf 0 = .ok (.iconst 0, 1) := by decide +kernel
theorem dX6_signsOf_1 : decode cX6_signsOf 1 = .ok (.istore_n 1, 1) := by decide +kernel
theorem dX6_signsOf_2 : decode cX6_signsOf 2 = .ok (.iconst 0, 1) := by decide +kernel
theorem dX6_signsOf_3 : decode cX6_signsOf 3 = .ok (.istore_n 2, 1) := by decide +kernel
theorem dX6_signsOf_4 : decode cX6_signsOf 4 = .ok (.iload_n 2, 1) := by decide +kernel
theorem dX6_signsOf_5 : decode cX6_signsOf 5 = .ok (.iconst 4, 1) := by decide +kernel
theorem dX6_signsOf_6 : decode cX6_signsOf 6 = .ok (.if_icmp .ge 30, 3) := by decide +kernel
theorem dX6_signsOf_9 : decode cX6_signsOf 9 = .ok (.iload_n 0, 1) := by decide +kernel
theorem dX6_signsOf_10 : decode cX6_signsOf 10 = .ok (.bipush 8, 2) := by decide +kernel
theorem dX6_signsOf_12 : decode cX6_signsOf 12 = .ok (.iload_n 2, 1) := by decide +kernel
theorem dX6_signsOf_13 : decode cX6_signsOf 13 = .ok (.imul, 1) := by decide +kernel
theorem dX6_signsOf_14 : decode cX6_signsOf 14 = .ok (.iushr, 1) := by decide +kernel
theorem dX6_signsOf_15 : decode cX6_signsOf 15 = .ok (.sipush 255, 3) := by decide +kernel
theorem dX6_signsOf_18 : decode cX6_signsOf 18 = .ok (.iand, 1) := by decide +kernel
theorem dX6_signsOf_19 : decode cX6_signsOf 19 = .ok (.ifCond .ne 7, 3) := by decide +kernel
theorem dX6_signsOf_22 : decode cX6_signsOf 22 = .ok (.iload_n 1, 1) := by decide +kernel
theorem dX6_signsOf_23 : decode cX6_signsOf 23 = .ok (.goto 6, 3) := by decide +kernel
theorem dX6_signsOf_26 : decode cX6_signsOf 26 = .ok (.iload_n 1, 1) := by decide +kernel
theorem dX6_signsOf_27 : decode cX6_signsOf 27 = .ok (.iconst 1, 1) := by decide +kernel
theorem dX6_signsOf_28 : decode cX6_signsOf 28 = .ok (.iadd, 1) := by decide +kernel
theorem dX6_signsOf_29 : decode cX6_signsOf 29 = .ok (.istore_n 1, 1) := by decide +kernel
theorem dX6_signsOf_30 : decode cX6_signsOf 30 = .ok (.iinc 2 1, 3) := by decide +kernel
theorem dX6_signsOf_33 : decode cX6_signsOf 33 = .ok (.goto (-29), 3) := by decide +kernel
theorem dX6_signsOf_36 : decode cX6_signsOf 36 = .ok (.iload_n 1, 1) := by decide +kernel
theorem dX6_signsOf_37 : decode cX6_signsOf 37 = .ok (.ireturn, 1) := by decide +kernel
theorem dX6_feedOne_0 : decode cX6_feedOne 0 = .ok (.iconst 0, 1) := by decide +kernel
theorem dX6_feedOne_1 : decode cX6_feedOne 1 = .ok (.istore_n 3, 1) := by decide +kernel
theorem dX6_feedOne_2 : decode cX6_feedOne 2 = .ok (.iload_n 3, 1) := by decide +kernel
theorem dX6_feedOne_3 : decode cX6_feedOne 3 = .ok (.iconst 4, 1) := by decide +kernel
theorem dX6_feedOne_4 : decode cX6_feedOne 4 = .ok (.if_icmp .ge 80, 3) := by decide +kernel
theorem dX6_feedOne_7 : decode cX6_feedOne 7 = .ok (.iload_n 2, 1) := by decide +kernel
theorem dX6_feedOne_8 : decode cX6_feedOne 8 = .ok (.bipush 8, 2) := by decide +kernel
theorem dX6_feedOne_10 : decode cX6_feedOne 10 = .ok (.iload_n 3, 1) := by decide +kernel
theorem dX6_feedOne_11 : decode cX6_feedOne 11 = .ok (.imul, 1) := by decide +kernel
theorem dX6_feedOne_12 : decode cX6_feedOne 12 = .ok (.iushr, 1) := by decide +kernel
theorem dX6_feedOne_13 : decode cX6_feedOne 13 = .ok (.sipush 255, 3) := by decide +kernel
theorem dX6_feedOne_16 : decode cX6_feedOne 16 = .ok (.iand, 1) := by decide +kernel
theorem dX6_feedOne_17 : decode cX6_feedOne 17 = .ok (.istore 4, 2) := by decide +kernel
theorem dX6_feedOne_19 : decode cX6_feedOne 19 = .ok (.iload 4, 2) := by decide +kernel
theorem dX6_feedOne_21 : decode cX6_feedOne 21 = .ok (.ifCond .eq 31, 3) := by decide +kernel
theorem dX6_feedOne_24 : decode cX6_feedOne 24 = .ok (.iload_n 1, 1) := by decide +kernel
theorem dX6_feedOne_25 : decode cX6_feedOne 25 = .ok (.ifCond .ne 27, 3) := by decide +kernel
theorem dX6_feedOne_28 : decode cX6_feedOne 28 = .ok (.aload_n 0, 1) := by decide +kernel
theorem dX6_feedOne_29 : decode cX6_feedOne 29 = .ok (.getfield 7, 3) := by decide +kernel
theorem dX6_feedOne_32 : decode cX6_feedOne 32 = .ok (.aload_n 0, 1) := by decide +kernel
theorem dX6_feedOne_33 : decode cX6_feedOne 33 = .ok (.getfield 72, 3) := by decide +kernel
theorem dX6_feedOne_36 : decode cX6_feedOne 36 = .ok (.iload 4, 2) := by decide +kernel
theorem dX6_feedOne_38 : decode cX6_feedOne 38 = .ok (.iastore, 1) := by decide +kernel
theorem dX6_feedOne_39 : decode cX6_feedOne 39 = .ok (.aload_n 0, 1) := by decide +kernel
theorem dX6_feedOne_40 : decode cX6_feedOne 40 = .ok (.dup, 1) := by decide +kernel
theorem dX6_feedOne_41 : decode cX6_feedOne 41 = .ok (.getfield 72, 3) := by decide +kernel
theorem dX6_feedOne_44 : decode cX6_feedOne 44 = .ok (.iconst 1, 1) := by decide +kernel
theorem dX6_feedOne_45 : decode cX6_feedOne 45 = .ok (.iadd, 1) := by decide +kernel
theorem dX6_feedOne_46 : decode cX6_feedOne 46 = .ok (.putfield 72, 3) := by decide +kernel
theorem dX6_feedOne_49 : decode cX6_feedOne 49 = .ok (.goto 29, 3) := by decide +kernel
theorem dX6_feedOne_52 : decode cX6_feedOne 52 = .ok (.iload 4, 2) := by decide +kernel
theorem dX6_feedOne_54 : decode cX6_feedOne 54 = .ok (.ifCond .eq 24, 3) := by decide +kernel
theorem dX6_feedOne_57 : decode cX6_feedOne 57 = .ok (.aload_n 0, 1) := by decide +kernel
theorem dX6_feedOne_58 : decode cX6_feedOne 58 = .ok (.getfield 13, 3) := by decide +kernel
theorem dX6_feedOne_61 : decode cX6_feedOne 61 = .ok (.aload_n 0, 1) := by decide +kernel
theorem dX6_feedOne_62 : decode cX6_feedOne 62 = .ok (.getfield 75, 3) := by decide +kernel
theorem dX6_feedOne_65 : decode cX6_feedOne 65 = .ok (.iload 4, 2) := by decide +kernel
theorem dX6_feedOne_67 : decode cX6_feedOne 67 = .ok (.iastore, 1) := by decide +kernel
theorem dX6_feedOne_68 : decode cX6_feedOne 68 = .ok (.aload_n 0, 1) := by decide +kernel
theorem dX6_feedOne_69 : decode cX6_feedOne 69 = .ok (.dup, 1) := by decide +kernel
theorem dX6_feedOne_70 : decode cX6_feedOne 70 = .ok (.getfield 75, 3) := by decide +kernel
theorem dX6_feedOne_73 : decode cX6_feedOne 73 = .ok (.iconst 1, 1) := by decide +kernel
theorem dX6_feedOne_74 : decode cX6_feedOne 74 = .ok (.iadd, 1) := by decide +kernel
theorem dX6_feedOne_75 : decode cX6_feedOne 75 = .ok (.putfield 75, 3) := by decide +kernel
theorem dX6_feedOne_78 : decode cX6_feedOne 78 = .ok (.iinc 3 1, 3) := by decide +kernel
theorem dX6_feedOne_81 : decode cX6_feedOne 81 = .ok (.goto (-79), 3) := by decide +kernel
theorem dX6_feedOne_84 : decode cX6_feedOne 84 = .ok (.return_, 1) := by decide +kernel
set_option maxRecDepth 20000 in
theorem ggX6_feed_X6_signsOf : GoodIn wsX6_feed wsX6_signsOf := goodIn_r _ [6] (by decide +kernel) (by decide +kernel)
set_option maxRecDepth 20000 in
theorem gX6_feed_X6_signsOf : GoodIn wsX6_feed (va_wsS RX6 78 yX6_signsOf wsX6_signsOf) := goodIn_app (goodIn_of _ (by decide +kernel)) ggX6_feed_X6_signsOf
set_option maxRecDepth 20000 in
theorem ggX6_feed_X6_goes : GoodIn wsX6_feed wsX6_goes := goodIn_r _ [10, 11, 18, 19, 20, 21, 22, 23, 24, 25, 26, 27, 28, 29, 30, 31, 32, 33, 34, 35, 36, 37, 38, 39, 40, 41, 42, 43, 44, 45] (by decide +kernel) (by decide +kernel)
set_option maxRecDepth 20000 in
theorem gX6_feed_X6_goes : GoodIn wsX6_feed (wsV RX6 82 RX6 yX6_goes wsX6_goes) := goodIn_app (goodIn_of _ (by decide +kernel)) ggX6_feed_X6_goes
set_option maxRecDepth 20000 in
theorem ggX6_feed_X6_feedOne : GoodIn wsX6_feed wsX6_feedOne := goodIn_r _ [15, 16, 1, 17, 2, 18, 19, 20, 21, 22, 23, 24, 25, 26, 27, 28, 29, 30, 31, 32, 33, 34, 35, 36, 37, 38, 39, 40, 41, 42, 43, 44, 45] (by decide +kernel) (by decide +kernel)
set_option maxRecDepth 20000 in
theorem gX6_feed_X6_feedOne : GoodIn wsX6_feed (wsV RX6 86 RX6 yX6_feedOne wsX6_feedOne) := goodIn_app (goodIn_of _ (by decide +kernel)) ggX6_feed_X6_feedOne
theorem dX6_feed_0 : decode cX6_feed 0 = .ok (.iload_n 2, 1) := by decide +kernel
theorem dX6_feed_1 : decode cX6_feed 1 = .ok (.invokestatic 78, 3) := by decide +kernel
theorem dX6_feed_4 : decode cX6_feed 4 = .ok (.iload_n 3, 1) := by decide +kernel
theorem dX6_feed_5 : decode cX6_feed 5 = .ok (.invokestatic 78, 3) := by decide +kernel
theorem dX6_feed_8 : decode cX6_feed 8 = .ok (.iadd, 1) := by decide +kernel
theorem dX6_feed_9 : decode cX6_feed 9 = .ok (.iload 4, 2) := by decide +kernel
theorem dX6_feed_11 : decode cX6_feed 11 = .ok (.invokestatic 78, 3) := by decide +kernel
theorem dX6_feed_14 : decode cX6_feed 14 = .ok (.iadd, 1) := by decide +kernel
theorem dX6_feed_15 : decode cX6_feed 15 = .ok (.iload 5, 2) := by decide +kernel
theorem dX6_feed_17 : decode cX6_feed 17 = .ok (.invokestatic 78, 3) := by decide +kernel
theorem dX6_feed_20 : decode cX6_feed 20 = .ok (.iadd, 1) := by decide +kernel
theorem dX6_feed_21 : decode cX6_feed 21 = .ok (.istore 6, 2) := by decide +kernel
theorem dX6_feed_23 : decode cX6_feed 23 = .ok (.aload_n 0, 1) := by decide +kernel
theorem dX6_feed_24 : decode cX6_feed 24 = .ok (.iload_n 1, 1) := by decide +kernel
theorem dX6_feed_25 : decode cX6_feed 25 = .ok (.ifCond .eq 8, 3) := by decide +kernel
theorem dX6_feed_28 : decode cX6_feed 28 = .ok (.iload_n 1, 1) := by decide +kernel
theorem dX6_feed_29 : decode cX6_feed 29 = .ok (.iconst 1, 1) := by decide +kernel
theorem dX6_feed_30 : decode cX6_feed 30 = .ok (.if_icmp .ne 7, 3) := by decide +kernel
theorem dX6_feed_33 : decode cX6_feed 33 = .ok (.iconst 1, 1) := by decide +kernel
theorem dX6_feed_34 : decode cX6_feed 34 = .ok (.goto 4, 3) := by decide +kernel
theorem dX6_feed_37 : decode cX6_feed 37 = .ok (.iconst 0, 1) := by decide +kernel
theorem dX6_feed_38 : decode cX6_feed 38 = .ok (.iload_n 1, 1) := by decide +kernel
theorem dX6_feed_39 : decode cX6_feed 39 = .ok (.ifCond .ne 24, 3) := by decide +kernel
theorem dX6_feed_42 : decode cX6_feed 42 = .ok (.aload_n 0, 1) := by decide +kernel
theorem dX6_feed_43 : decode cX6_feed 43 = .ok (.getfield 72, 3) := by decide +kernel
theorem dX6_feed_46 : decode cX6_feed 46 = .ok (.iload 6, 2) := by decide +kernel
theorem dX6_feed_48 : decode cX6_feed 48 = .ok (.iadd, 1) := by decide +kernel
theorem dX6_feed_49 : decode cX6_feed 49 = .ok (.sipush 150, 3) := by decide +kernel
theorem dX6_feed_52 : decode cX6_feed 52 = .ok (.if_icmp .gt 7, 3) := by decide +kernel
theorem dX6_feed_55 : decode cX6_feed 55 = .ok (.iconst 1, 1) := by decide +kernel
theorem dX6_feed_56 : decode cX6_feed 56 = .ok (.goto 25, 3) := by decide +kernel
theorem dX6_feed_59 : decode cX6_feed 59 = .ok (.iconst 0, 1) := by decide +kernel
theorem dX6_feed_60 : decode cX6_feed 60 = .ok (.goto 21, 3) := by decide +kernel
theorem dX6_feed_63 : decode cX6_feed 63 = .ok (.aload_n 0, 1) := by decide +kernel
theorem dX6_feed_64 : decode cX6_feed 64 = .ok (.getfield 75, 3) := by decide +kernel
theorem dX6_feed_67 : decode cX6_feed 67 = .ok (.iload 6, 2) := by decide +kernel
theorem dX6_feed_69 : decode cX6_feed 69 = .ok (.iadd, 1) := by decide +kernel
theorem dX6_feed_70 : decode cX6_feed 70 = .ok (.sipush 300, 3) := by decide +kernel
theorem dX6_feed_73 : decode cX6_feed 73 = .ok (.if_icmp .gt 7, 3) := by decide +kernel
theorem dX6_feed_76 : decode cX6_feed 76 = .ok (.iconst 1, 1) := by decide +kernel
theorem dX6_feed_77 : decode cX6_feed 77 = .ok (.goto 4, 3) := by decide +kernel
theorem dX6_feed_80 : decode cX6_feed 80 = .ok (.iconst 0, 1) := by decide +kernel
theorem dX6_feed_81 : decode cX6_feed 81 = .ok (.invokevirtual 82, 3) := by decide +kernel
theorem dX6_feed_84 : decode cX6_feed 84 = .ok (.ifCond .ne 5, 3) := by decide +kernel
theorem dX6_feed_87 : decode cX6_feed 87 = .ok (.iconst 0, 1) := by decide +kernel
theorem dX6_feed_88 : decode cX6_feed 88 = .ok (.ireturn, 1) := by decide +kernel
theorem dX6_feed_89 : decode cX6_feed 89 = .ok (.aload_n 0, 1) := by decide +kernel
theorem dX6_feed_90 : decode cX6_feed 90 = .ok (.iload_n 1, 1) := by decide +kernel
theorem dX6_feed_91 : decode cX6_feed 91 = .ok (.iload_n 2, 1) := by decide +kernel
theorem dX6_feed_92 : decode cX6_feed 92 = .ok (.invokevirtual 86, 3) := by decide +kernel
theorem dX6_feed_95 : decode cX6_feed 95 = .ok (.aload_n 0, 1) := by decide +kernel
theorem dX6_feed_96 : decode cX6_feed 96 = .ok (.iload_n 1, 1) := by decide +kernel
theorem dX6_feed_97 : decode cX6_feed 97 = .ok (.iload_n 3, 1) := by decide +kernel
theorem dX6_feed_98 : decode cX6_feed 98 = .ok (.invokevirtual 86, 3) := by decide +kernel
theorem dX6_feed_101 : decode cX6_feed 101 = .ok (.aload_n 0, 1) := by decide +kernel
theorem dX6_feed_102 : decode cX6_feed 102 = .ok (.iload_n 1, 1) := by decide +kernel
theorem dX6_feed_103 : decode cX6_feed 103 = .ok (.iload 4, 2) := by decide +kernel
theorem dX6_feed_105 : decode cX6_feed 105 = .ok (.invokevirtual 86, 3) := by decide +kernel
theorem dX6_feed_108 : decode cX6_feed 108 = .ok (.aload_n 0, 1) := by decide +kernel
theorem dX6_feed_109 : decode cX6_feed 109 = .ok (.iload_n 1, 1) := by decide +kernel
theorem dX6_feed_110 : decode cX6_feed 110 = .ok (.iload 5, 2) := by decide +kernel
theorem dX6_feed_112 : decode cX6_feed 112 = .ok (.invokevirtual 86, 3) := by decide +kernel
theorem dX6_feed_115 : decode cX6_feed 115 = .ok (.iload_n 1, 1) := by decide +kernel
theorem dX6_feed_116 : decode cX6_feed 116 = .ok (.ifCond .ne 10, 3) := by decide +kernel
theorem dX6_feed_119 : decode cX6_feed 119 = .ok (.aload_n 0, 1) := by decide +kernel
theorem dX6_feed_120 : decode cX6_feed 120 = .ok (.getfield 72, 3) := by decide +kernel
theorem dX6_feed_123 : decode cX6_feed 123 = .ok (.goto 7, 3) := by decide +kernel
theorem dX6_feed_126 : decode cX6_feed 126 = .ok (.aload_n 0, 1) := by decide +kernel
theorem dX6_feed_127 : decode cX6_feed 127 = .ok (.getfield 75, 3) := by decide +kernel
theorem dX6_feed_130 : decode cX6_feed 130 = .ok (.ireturn, 1) := by decide +kernel
set_option maxRecDepth 20000 in
theorem ggX6_clear_X6_goes : GoodIn wsX6_clear wsX6_goes := goodIn_r _ [7, 8, 9, 10, 11, 12, 13, 14, 15, 16, 17, 18, 19, 20, 21, 22, 23, 24, 25, 26, 27, 28, 29, 30, 31, 32, 33, 34, 35, 36] (by decide +kernel) (by decide +kernel)
set_option maxRecDepth 20000 in
theorem gX6_clear_X6_goes : GoodIn wsX6_clear (wsV RX6 82 RX6 yX6_goes wsX6_goes) := goodIn_app (goodIn_of _ (by decide +kernel)) ggX6_clear_X6_goes
theorem dX6_clear_0 : decode cX6_clear 0 = .ok (.aload_n 0, 1) := by decide +kernel
theorem dX6_clear_1 : decode cX6_clear 1 = .ok (.iload_n 1, 1) := by decide +kernel
theorem dX6_clear_2 : decode cX6_clear 2 = .ok (.ifCond .eq 8, 3) := by decide +kernel
theorem dX6_clear_5 : decode cX6_clear 5 = .ok (.iload_n 1, 1) := by decide +kernel
theorem dX6_clear_6 : decode cX6_clear 6 = .ok (.iconst 1, 1) := by decide +kernel
theorem dX6_clear_7 : decode cX6_clear 7 = .ok (.if_icmp .ne 7, 3) := by decide +kernel
theorem dX6_clear_10 : decode cX6_clear 10 = .ok (.iconst 1, 1) := by decide +kernel
theorem dX6_clear_11 : decode cX6_clear 11 = .ok (.goto 4, 3) := by decide +kernel
theorem dX6_clear_14 : decode cX6_clear 14 = .ok (.iconst 0, 1) := by decide +kernel
theorem dX6_clear_15 : decode cX6_clear 15 = .ok (.iconst 1, 1) := by decide +kernel
theorem dX6_clear_16 : decode cX6_clear 16 = .ok (.invokevirtual 82, 3) := by decide +kernel
theorem dX6_clear_19 : decode cX6_clear 19 = .ok (.ifCond .ne 5, 3) := by decide +kernel
theorem dX6_clear_22 : decode cX6_clear 22 = .ok (.iconst 0, 1) := by decide +kernel
theorem dX6_clear_23 : decode cX6_clear 23 = .ok (.ireturn, 1) := by decide +kernel
theorem dX6_clear_24 : decode cX6_clear 24 = .ok (.iload_n 1, 1) := by decide +kernel
theorem dX6_clear_25 : decode cX6_clear 25 = .ok (.ifCond .ne 10, 3) := by decide +kernel
theorem dX6_clear_28 : decode cX6_clear 28 = .ok (.aload_n 0, 1) := by decide +kernel
theorem dX6_clear_29 : decode cX6_clear 29 = .ok (.getfield 72, 3) := by decide +kernel
theorem dX6_clear_32 : decode cX6_clear 32 = .ok (.goto 7, 3) := by decide +kernel
theorem dX6_clear_35 : decode cX6_clear 35 = .ok (.aload_n 0, 1) := by decide +kernel
theorem dX6_clear_36 : decode cX6_clear 36 = .ok (.getfield 75, 3) := by decide +kernel
theorem dX6_clear_39 : decode cX6_clear 39 = .ok (.istore_n 2, 1) := by decide +kernel
theorem dX6_clear_40 : decode cX6_clear 40 = .ok (.aload_n 0, 1) := by decide +kernel
theorem dX6_clear_41 : decode cX6_clear 41 = .ok (.iload_n 1, 1) := by decide +kernel
theorem dX6_clear_42 : decode cX6_clear 42 = .ok (.ifCond .ne 7, 3) := by decide +kernel
theorem dX6_clear_45 : decode cX6_clear 45 = .ok (.iconst 0, 1) := by decide +kernel
theorem dX6_clear_46 : decode cX6_clear 46 = .ok (.goto 7, 3) := by decide +kernel
theorem dX6_clear_49 : decode cX6_clear 49 = .ok (.aload_n 0, 1) := by decide +kernel
theorem dX6_clear_50 : decode cX6_clear 50 = .ok (.getfield 72, 3) := by decide +kernel
theorem dX6_clear_53 : decode cX6_clear 53 = .ok (.putfield 72, 3) := by decide +kernel
theorem dX6_clear_56 : decode cX6_clear 56 = .ok (.aload_n 0, 1) := by decide +kernel
theorem dX6_clear_57 : decode cX6_clear 57 = .ok (.iload_n 1, 1) := by decide +kernel
theorem dX6_clear_58 : decode cX6_clear 58 = .ok (.ifCond .ne 10, 3) := by decide +kernel
theorem dX6_clear_61 : decode cX6_clear 61 = .ok (.aload_n 0, 1) := by decide +kernel
theorem dX6_clear_62 : decode cX6_clear 62 = .ok (.getfield 75, 3) := by decide +kernel
theorem dX6_clear_65 : decode cX6_clear 65 = .ok (.goto 4, 3) := by decide +kernel
theorem dX6_clear_68 : decode cX6_clear 68 = .ok (.iconst 0, 1) := by decide +kernel
theorem dX6_clear_69 : decode cX6_clear 69 = .ok (.putfield 75, 3) := by decide +kernel
theorem dX6_clear_72 : decode cX6_clear 72 = .ok (.iload_n 2, 1) := by decide +kernel
theorem dX6_clear_73 : decode cX6_clear 73 = .ok (.ireturn, 1) := by decide +kernel
theorem dX6_cell_0 : decode cX6_cell 0 = .ok (.aload_n 0, 1) := by decide +kernel
theorem dX6_cell_1 : decode cX6_cell 1 = .ok (.getfield 31, 3) := by decide +kernel
theorem dX6_cell_4 : decode cX6_cell 4 = .ok (.iload_n 1, 1) := by decide +kernel
theorem dX6_cell_5 : decode cX6_cell 5 = .ok (.iconst 1, 1) := by decide +kernel
theorem dX6_cell_6 : decode cX6_cell 6 = .ok (.isub, 1) := by decide +kernel
theorem dX6_cell_7 : decode cX6_cell 7 = .ok (.iaload, 1) := by decide +kernel
theorem dX6_cell_8 : decode cX6_cell 8 = .ok (.aload_n 0, 1) := by decide +kernel
theorem dX6_cell_9 : decode cX6_cell 9 = .ok (.getfield 7, 3) := by decide +kernel
theorem dX6_cell_12 : decode cX6_cell 12 = .ok (.iload_n 1, 1) := by decide +kernel
theorem dX6_cell_13 : decode cX6_cell 13 = .ok (.iconst 1, 1) := by decide +kernel
theorem dX6_cell_14 : decode cX6_cell 14 = .ok (.isub, 1) := by decide +kernel
theorem dX6_cell_15 : decode cX6_cell 15 = .ok (.iaload, 1) := by decide +kernel
theorem dX6_cell_16 : decode cX6_cell 16 = .ok (.iload_n 2, 1) := by decide +kernel
theorem dX6_cell_17 : decode cX6_cell 17 = .ok (.if_icmp .ne 7, 3) := by decide +kernel
theorem dX6_cell_20 : decode cX6_cell 20 = .ok (.iconst 0, 1) := by decide +kernel
theorem dX6_cell_21 : decode cX6_cell 21 = .ok (.goto 4, 3) := by decide +kernel
theorem dX6_cell_24 : decode cX6_cell 24 = .ok (.iconst 1, 1) := by decide +kernel
theorem dX6_cell_25 : decode cX6_cell 25 = .ok (.iadd, 1) := by decide +kernel
theorem dX6_cell_26 : decode cX6_cell 26 = .ok (.istore_n 3, 1) := by decide +kernel
theorem dX6_cell_27 : decode cX6_cell 27 = .ok (.aload_n 0, 1) := by decide +kernel
theorem dX6_cell_28 : decode cX6_cell 28 = .ok (.getfield 34, 3) := by decide +kernel
theorem dX6_cell_31 : decode cX6_cell 31 = .ok (.iload_n 1, 1) := by decide +kernel
theorem dX6_cell_32 : decode cX6_cell 32 = .ok (.iconst 1, 1) := by decide +kernel
theorem dX6_cell_33 : decode cX6_cell 33 = .ok (.isub, 1) := by decide +kernel
theorem dX6_cell_34 : decode cX6_cell 34 = .ok (.iaload, 1) := by decide +kernel
theorem dX6_cell_35 : decode cX6_cell 35 = .ok (.iconst 1, 1) := by decide +kernel
theorem dX6_cell_36 : decode cX6_cell 36 = .ok (.iadd, 1) := by decide +kernel
theorem dX6_cell_37 : decode cX6_cell 37 = .ok (.istore 4, 2) := by decide +kernel
theorem dX6_cell_39 : decode cX6_cell 39 = .ok (.aload_n 0, 1) := by decide +kernel
theorem dX6_cell_40 : decode cX6_cell 40 = .ok (.getfield 31, 3) := by decide +kernel
theorem dX6_cell_43 : decode cX6_cell 43 = .ok (.iload_n 1, 1) := by decide +kernel
theorem dX6_cell_44 : decode cX6_cell 44 = .ok (.iaload, 1) := by decide +kernel
theorem dX6_cell_45 : decode cX6_cell 45 = .ok (.iconst 1, 1) := by decide +kernel
theorem dX6_cell_46 : decode cX6_cell 46 = .ok (.iadd, 1) := by decide +kernel
theorem dX6_cell_47 : decode cX6_cell 47 = .ok (.istore 5, 2) := by decide +kernel
theorem dX6_cell_49 : decode cX6_cell 49 = .ok (.iload_n 3, 1) := by decide +kernel
theorem dX6_cell_50 : decode cX6_cell 50 = .ok (.iload 4, 2) := by decide +kernel
theorem dX6_cell_52 : decode cX6_cell 52 = .ok (.if_icmp .ge 7, 3) := by decide +kernel
theorem dX6_cell_55 : decode cX6_cell 55 = .ok (.iload_n 3, 1) := by decide +kernel
theorem dX6_cell_56 : decode cX6_cell 56 = .ok (.goto 5, 3) := by decide +kernel
theorem dX6_cell_59 : decode cX6_cell 59 = .ok (.iload 4, 2) := by decide +kernel
theorem dX6_cell_61 : decode cX6_cell 61 = .ok (.istore 6, 2) := by decide +kernel
theorem dX6_cell_63 : decode cX6_cell 63 = .ok (.iload 5, 2) := by decide +kernel
theorem dX6_cell_65 : decode cX6_cell 65 = .ok (.iload 6, 2) := by decide +kernel
theorem dX6_cell_67 : decode cX6_cell 67 = .ok (.if_icmp .ge 8, 3) := by decide +kernel
theorem dX6_cell_70 : decode cX6_cell 70 = .ok (.iload 5, 2) := by decide +kernel
theorem dX6_cell_72 : decode cX6_cell 72 = .ok (.goto 5, 3) := by decide +kernel
theorem dX6_cell_75 : decode cX6_cell 75 = .ok (.iload 6, 2) := by decide +kernel
theorem dX6_cell_77 : decode cX6_cell 77 = .ok (.istore 6, 2) := by decide +kernel
theorem dX6_cell_79 : decode cX6_cell 79 = .ok (.iconst (-1), 1) := by decide +kernel
theorem dX6_cell_80 : decode cX6_cell 80 = .ok (.istore 7, 2) := by decide +kernel
theorem dX6_cell_82 : decode cX6_cell 82 = .ok (.iload_n 3, 1) := by decide +kernel
theorem dX6_cell_83 : decode cX6_cell 83 = .ok (.iload 6, 2) := by decide +kernel
theorem dX6_cell_85 : decode cX6_cell 85 = .ok (.if_icmp .ne 27, 3) := by decide +kernel
theorem dX6_cell_88 : decode cX6_cell 88 = .ok (.aload_n 0, 1) := by decide +kernel
theorem dX6_cell_89 : decode cX6_cell 89 = .ok (.getfield 37, 3) := by decide +kernel
theorem dX6_cell_92 : decode cX6_cell 92 = .ok (.iload_n 1, 1) := by decide +kernel
theorem dX6_cell_93 : decode cX6_cell 93 = .ok (.iconst 1, 1) := by decide +kernel
theorem dX6_cell_94 : decode cX6_cell 94 = .ok (.isub, 1) := by decide +kernel
theorem dX6_cell_95 : decode cX6_cell 95 = .ok (.iaload, 1) := by decide +kernel
theorem dX6_cell_96 : decode cX6_cell 96 = .ok (.iload 7, 2) := by decide +kernel
theorem dX6_cell_98 : decode cX6_cell 98 = .ok (.if_icmp .le 14, 3) := by decide +kernel
theorem dX6_cell_101 : decode cX6_cell 101 = .ok (.aload_n 0, 1) := by decide +kernel
theorem dX6_cell_102 : decode cX6_cell 102 = .ok (.getfield 37, 3) := by decide +kernel
theorem dX6_cell_105 : decode cX6_cell 105 = .ok (.iload_n 1, 1) := by decide +kernel
theorem dX6_cell_106 : decode cX6_cell 106 = .ok (.iconst 1, 1) := by decide +kernel
theorem dX6_cell_107 : decode cX6_cell 107 = .ok (.isub, 1) := by decide +kernel
theorem dX6_cell_108 : decode cX6_cell 108 = .ok (.iaload, 1) := by decide +kernel
theorem dX6_cell_109 : decode cX6_cell 109 = .ok (.goto 5, 3) := by decide +kernel
theorem dX6_cell_112 : decode cX6_cell 112 = .ok (.iload 7, 2) := by decide +kernel
theorem dX6_cell_114 : decode cX6_cell 114 = .ok (.istore 7, 2) := by decide +kernel
theorem dX6_cell_116 : decode cX6_cell 116 = .ok (.iload 4, 2) := by decide +kernel
theorem dX6_cell_118 : decode cX6_cell 118 = .ok (.iload 6, 2) := by decide +kernel
theorem dX6_cell_120 : decode cX6_cell 120 = .ok (.if_icmp .ne 27, 3) := by decide +kernel
theorem dX6_cell_123 : decode cX6_cell 123 = .ok (.aload_n 0, 1) := by decide +kernel
theorem dX6_cell_124 : decode cX6_cell 124 = .ok (.getfield 40, 3) := by decide +kernel
theorem dX6_cell_127 : decode cX6_cell 127 = .ok (.iload_n 1, 1) := by decide +kernel
theorem dX6_cell_128 : decode cX6_cell 128 = .ok (.iconst 1, 1) := by decide +kernel
theorem dX6_cell_129 : decode cX6_cell 129 = .ok (.isub, 1) := by decide +kernel
theorem dX6_cell_130 : decode cX6_cell 130 = .ok (.iaload, 1) := by decide +kernel
theorem dX6_cell_131 : decode cX6_cell 131 = .ok (.iload 7, 2) := by decide +kernel
theorem dX6_cell_133 : decode cX6_cell 133 = .ok (.if_icmp .le 14, 3) := by decide +kernel
theorem dX6_cell_136 : decode cX6_cell 136 = .ok (.aload_n 0, 1) := by decide +kernel
theorem dX6_cell_137 : decode cX6_cell 137 = .ok (.getfield 40, 3) := by decide +kernel
theorem dX6_cell_140 : decode cX6_cell 140 = .ok (.iload_n 1, 1) := by decide +kernel
theorem dX6_cell_141 : decode cX6_cell 141 = .ok (.iconst 1, 1) := by decide +kernel
theorem dX6_cell_142 : decode cX6_cell 142 = .ok (.isub, 1) := by decide +kernel
theorem dX6_cell_143 : decode cX6_cell 143 = .ok (.iaload, 1) := by decide +kernel
theorem dX6_cell_144 : decode cX6_cell 144 = .ok (.goto 5, 3) := by decide +kernel
theorem dX6_cell_147 : decode cX6_cell 147 = .ok (.iload 7, 2) := by decide +kernel
theorem dX6_cell_149 : decode cX6_cell 149 = .ok (.istore 7, 2) := by decide +kernel
theorem dX6_cell_151 : decode cX6_cell 151 = .ok (.iload 5, 2) := by decide +kernel
theorem dX6_cell_153 : decode cX6_cell 153 = .ok (.iload 6, 2) := by decide +kernel
theorem dX6_cell_155 : decode cX6_cell 155 = .ok (.if_icmp .ne 23, 3) := by decide +kernel
theorem dX6_cell_158 : decode cX6_cell 158 = .ok (.aload_n 0, 1) := by decide +kernel
theorem dX6_cell_159 : decode cX6_cell 159 = .ok (.getfield 37, 3) := by decide +kernel
theorem dX6_cell_162 : decode cX6_cell 162 = .ok (.iload_n 1, 1) := by decide +kernel
theorem dX6_cell_163 : decode cX6_cell 163 = .ok (.iaload, 1) := by decide +kernel
theorem dX6_cell_164 : decode cX6_cell 164 = .ok (.iload 7, 2) := by decide +kernel
theorem dX6_cell_166 : decode cX6_cell 166 = .ok (.if_icmp .le 12, 3) := by decide +kernel
theorem dX6_cell_169 : decode cX6_cell 169 = .ok (.aload_n 0, 1) := by decide +kernel
theorem dX6_cell_170 : decode cX6_cell 170 = .ok (.getfield 37, 3) := by decide +kernel
theorem dX6_cell_173 : decode cX6_cell 173 = .ok (.iload_n 1, 1) := by decide +kernel
theorem dX6_cell_174 : decode cX6_cell 174 = .ok (.iaload, 1) := by decide +kernel
theorem dX6_cell_175 : decode cX6_cell 175 = .ok (.goto 5, 3) := by decide +kernel
theorem dX6_cell_178 : decode cX6_cell 178 = .ok (.iload 7, 2) := by decide +kernel
theorem dX6_cell_180 : decode cX6_cell 180 = .ok (.istore 7, 2) := by decide +kernel
theorem dX6_cell_182 : decode cX6_cell 182 = .ok (.aload_n 0, 1) := by decide +kernel
theorem dX6_cell_183 : decode cX6_cell 183 = .ok (.getfield 34, 3) := by decide +kernel
theorem dX6_cell_186 : decode cX6_cell 186 = .ok (.iload_n 1, 1) := by decide +kernel
theorem dX6_cell_187 : decode cX6_cell 187 = .ok (.iload 6, 2) := by decide +kernel
theorem dX6_cell_189 : decode cX6_cell 189 = .ok (.iastore, 1) := by decide +kernel
theorem dX6_cell_190 : decode cX6_cell 190 = .ok (.aload_n 0, 1) := by decide +kernel
theorem dX6_cell_191 : decode cX6_cell 191 = .ok (.getfield 40, 3) := by decide +kernel
theorem dX6_cell_194 : decode cX6_cell 194 = .ok (.iload_n 1, 1) := by decide +kernel
theorem dX6_cell_195 : decode cX6_cell 195 = .ok (.iload 7, 2) := by decide +kernel
theorem dX6_cell_197 : decode cX6_cell 197 = .ok (.iastore, 1) := by decide +kernel
theorem dX6_cell_198 : decode cX6_cell 198 = .ok (.return_, 1) := by decide +kernel
theorem dX6_found_0 : decode cX6_found 0 = .ok (.aload_n 0, 1) := by decide +kernel
theorem dX6_found_1 : decode cX6_found 1 = .ok (.getfield 34, 3) := by decide +kernel
theorem dX6_found_4 : decode cX6_found 4 = .ok (.aload_n 0, 1) := by decide +kernel
theorem dX6_found_5 : decode cX6_found 5 = .ok (.getfield 72, 3) := by decide +kernel
theorem dX6_found_8 : decode cX6_found 8 = .ok (.iaload, 1) := by decide +kernel
theorem dX6_found_9 : decode cX6_found 9 = .ok (.iload_n 2, 1) := by decide +kernel
theorem dX6_found_10 : decode cX6_found 10 = .ok (.if_icmp .gt 71, 3) := by decide +kernel
theorem dX6_found_13 : decode cX6_found 13 = .ok (.iload_n 3, 1) := by decide +kernel
theorem dX6_found_14 : decode cX6_found 14 = .ok (.ifCond .ne 11, 3) := by decide +kernel
theorem dX6_found_17 : decode cX6_found 17 = .ok (.iload_n 1, 1) := by decide +kernel
theorem dX6_found_18 : decode cX6_found 18 = .ok (.aload_n 0, 1) := by decide +kernel
theorem dX6_found_19 : decode cX6_found 19 = .ok (.getfield 75, 3) := by decide +kernel
theorem dX6_found_22 : decode cX6_found 22 = .ok (.if_icmp .ne 59, 3) := by decide +kernel
theorem dX6_found_25 : decode cX6_found 25 = .ok (.aload_n 0, 1) := by decide +kernel
theorem dX6_found_26 : decode cX6_found 26 = .ok (.getfield 22, 3) := by decide +kernel
theorem dX6_found_29 : decode cX6_found 29 = .ok (.aload_n 0, 1) := by decide +kernel
theorem dX6_found_30 : decode cX6_found 30 = .ok (.getfield 90, 3) := by decide +kernel
theorem dX6_found_33 : decode cX6_found 33 = .ok (.iload_n 1, 1) := by decide +kernel
theorem dX6_found_34 : decode cX6_found 34 = .ok (.iastore, 1) := by decide +kernel
theorem dX6_found_35 : decode cX6_found 35 = .ok (.aload_n 0, 1) := by decide +kernel
theorem dX6_found_36 : decode cX6_found 36 = .ok (.getfield 25, 3) := by decide +kernel
theorem dX6_found_39 : decode cX6_found 39 = .ok (.aload_n 0, 1) := by decide +kernel
theorem dX6_found_40 : decode cX6_found 40 = .ok (.getfield 90, 3) := by decide +kernel
theorem dX6_found_43 : decode cX6_found 43 = .ok (.aload_n 0, 1) := by decide +kernel
theorem dX6_found_44 : decode cX6_found 44 = .ok (.getfield 34, 3) := by decide +kernel
theorem dX6_found_47 : decode cX6_found 47 = .ok (.aload_n 0, 1) := by decide +kernel
theorem dX6_found_48 : decode cX6_found 48 = .ok (.getfield 72, 3) := by decide +kernel
theorem dX6_found_51 : decode cX6_found 51 = .ok (.iaload, 1) := by decide +kernel
theorem dX6_found_52 : decode cX6_found 52 = .ok (.iastore, 1) := by decide +kernel
theorem dX6_found_53 : decode cX6_found 53 = .ok (.aload_n 0, 1) := by decide +kernel
theorem dX6_found_54 : decode cX6_found 54 = .ok (.getfield 28, 3) := by decide +kernel
theorem dX6_found_57 : decode cX6_found 57 = .ok (.aload_n 0, 1) := by decide +kernel
theorem dX6_found_58 : decode cX6_found 58 = .ok (.getfield 90, 3) := by decide +kernel
theorem dX6_found_61 : decode cX6_found 61 = .ok (.aload_n 0, 1) := by decide +kernel
theorem dX6_found_62 : decode cX6_found 62 = .ok (.getfield 40, 3) := by decide +kernel
theorem dX6_found_65 : decode cX6_found 65 = .ok (.aload_n 0, 1) := by decide +kernel
theorem dX6_found_66 : decode cX6_found 66 = .ok (.getfield 72, 3) := by decide +kernel
theorem dX6_found_69 : decode cX6_found 69 = .ok (.iaload, 1) := by decide +kernel
theorem dX6_found_70 : decode cX6_found 70 = .ok (.iastore, 1) := by decide +kernel
theorem dX6_found_71 : decode cX6_found 71 = .ok (.aload_n 0, 1) := by decide +kernel
theorem dX6_found_72 : decode cX6_found 72 = .ok (.dup, 1) := by decide +kernel
theorem dX6_found_73 : decode cX6_found 73 = .ok (.getfield 90, 3) := by decide +kernel
theorem dX6_found_76 : decode cX6_found 76 = .ok (.iconst 1, 1) := by decide +kernel
theorem dX6_found_77 : decode cX6_found 77 = .ok (.iadd, 1) := by decide +kernel
theorem dX6_found_78 : decode cX6_found 78 = .ok (.putfield 90, 3) := by decide +kernel
theorem dX6_found_81 : decode cX6_found 81 = .ok (.return_, 1) := by decide +kernel
set_option maxRecDepth 20000 in
theorem ggX6_search_X6_goes : GoodIn wsX6_search wsX6_goes := goodIn_r _ [18, 19, 31, 32, 33, 34, 35, 36, 37, 38, 39, 40, 41, 42, 43, 44, 45, 46, 47, 48, 49, 50, 51, 52, 53, 54, 55, 56, 57, 58] (by decide +kernel) (by decide +kernel)
set_option maxRecDepth 20000 in
theorem gX6_search_X6_goes : GoodIn wsX6_search (wsV RX6 82 RX6 yX6_goes wsX6_goes) := goodIn_app (goodIn_of _ (by decide +kernel)) ggX6_search_X6_goes
set_option maxRecDepth 20000 in
theorem ggX6_search_X6_found : GoodIn wsX6_search wsX6_found := goodIn_r _ [23, 3, 2, 5, 24, 1, 25, 26, 4, 31, 32, 33, 34, 35, 36, 37, 38, 39, 40, 41, 42, 43, 44, 45, 46, 47, 48, 49, 50, 51, 52, 53, 54, 55, 56, 57, 58] (by decide +kernel) (by decide +kernel)
set_option maxRecDepth 20000 in
theorem gX6_search_X6_found : GoodIn wsX6_search (wsV RX6 93 RX6 yX6_found wsX6_found) := goodIn_app (goodIn_of _ (by decide +kernel)) ggX6_search_X6_found
set_option maxRecDepth 20000 in
theorem ggX6_search_X6_cell : GoodIn wsX6_search wsX6_cell := goodIn_r _ [30, 6, 12, 3, 7, 4, 31, 32, 33, 34, 35, 36, 37, 38, 39, 40, 41, 42, 43, 44, 45, 46, 47, 48, 49, 50, 51, 52, 53, 54, 55, 56, 57, 58] (by decide +kernel) (by decide +kernel)
set_option maxRecDepth 20000 in
theorem gX6_search_X6_cell : GoodIn wsX6_search (wsV RX6 97 RX6 yX6_cell wsX6_cell) := goodIn_app (goodIn_of _ (by decide +kernel)) ggX6_search_X6_cell
theorem dX6_search_0 : decode cX6_search 0 = .ok (.aload_n 0, 1) := by decide +kernel
theorem dX6_search_1 : decode cX6_search 1 = .ok (.iload_n 1, 1) := by decide +kernel
theorem dX6_search_2 : decode cX6_search 2 = .ok (.ifCond .lt 23, 3) := by decide +kernel
theorem dX6_search_5 : decode cX6_search 5 = .ok (.iload_n 1, 1) := by decide +kernel
theorem dX6_search_6 : decode cX6_search 6 = .ok (.iconst 2, 1) := by decide +kernel
theorem dX6_search_7 : decode cX6_search 7 = .ok (.if_icmp .gt 18, 3) := by decide +kernel
theorem dX6_search_10 : decode cX6_search 10 = .ok (.iload_n 2, 1) := by decide +kernel
theorem dX6_search_11 : decode cX6_search 11 = .ok (.ifCond .lt 14, 3) := by decide +kernel
theorem dX6_search_14 : decode cX6_search 14 = .ok (.iload_n 2, 1) := by decide +kernel
theorem dX6_search_15 : decode cX6_search 15 = .ok (.sipush 450, 3) := by decide +kernel
theorem dX6_search_18 : decode cX6_search 18 = .ok (.if_icmp .gt 7, 3) := by decide +kernel
theorem dX6_search_21 : decode cX6_search 21 = .ok (.iconst 1, 1) := by decide +kernel
theorem dX6_search_22 : decode cX6_search 22 = .ok (.goto 4, 3) := by decide +kernel
theorem dX6_search_25 : decode cX6_search 25 = .ok (.iconst 0, 1) := by decide +kernel
theorem dX6_search_26 : decode cX6_search 26 = .ok (.iconst 1, 1) := by decide +kernel
theorem dX6_search_27 : decode cX6_search 27 = .ok (.invokevirtual 82, 3) := by decide +kernel
theorem dX6_search_30 : decode cX6_search 30 = .ok (.ifCond .ne 5, 3) := by decide +kernel
theorem dX6_search_33 : decode cX6_search 33 = .ok (.iconst 0, 1) := by decide +kernel
theorem dX6_search_34 : decode cX6_search 34 = .ok (.ireturn, 1) := by decide +kernel
theorem dX6_search_35 : decode cX6_search 35 = .ok (.aload_n 0, 1) := by decide +kernel
theorem dX6_search_36 : decode cX6_search 36 = .ok (.iconst 0, 1) := by decide +kernel
theorem dX6_search_37 : decode cX6_search 37 = .ok (.putfield 90, 3) := by decide +kernel
theorem dX6_search_40 : decode cX6_search 40 = .ok (.iconst 0, 1) := by decide +kernel
theorem dX6_search_41 : decode cX6_search 41 = .ok (.istore_n 3, 1) := by decide +kernel
theorem dX6_search_42 : decode cX6_search 42 = .ok (.iload_n 3, 1) := by decide +kernel
theorem dX6_search_43 : decode cX6_search 43 = .ok (.aload_n 0, 1) := by decide +kernel
theorem dX6_search_44 : decode cX6_search 44 = .ok (.getfield 72, 3) := by decide +kernel
theorem dX6_search_47 : decode cX6_search 47 = .ok (.if_icmp .gt 23, 3) := by decide +kernel
theorem dX6_search_50 : decode cX6_search 50 = .ok (.aload_n 0, 1) := by decide +kernel
theorem dX6_search_51 : decode cX6_search 51 = .ok (.getfield 34, 3) := by decide +kernel
theorem dX6_search_54 : decode cX6_search 54 = .ok (.iload_n 3, 1) := by decide +kernel
theorem dX6_search_55 : decode cX6_search 55 = .ok (.iload_n 3, 1) := by decide +kernel
theorem dX6_search_56 : decode cX6_search 56 = .ok (.iastore, 1) := by decide +kernel
theorem dX6_search_57 : decode cX6_search 57 = .ok (.aload_n 0, 1) := by decide +kernel
theorem dX6_search_58 : decode cX6_search 58 = .ok (.getfield 40, 3) := by decide +kernel
theorem dX6_search_61 : decode cX6_search 61 = .ok (.iload_n 3, 1) := by decide +kernel
theorem dX6_search_62 : decode cX6_search 62 = .ok (.iconst 0, 1) := by decide +kernel
theorem dX6_search_63 : decode cX6_search 63 = .ok (.iastore, 1) := by decide +kernel
theorem dX6_search_64 : decode cX6_search 64 = .ok (.iinc 3 1, 3) := by decide +kernel
theorem dX6_search_67 : decode cX6_search 67 = .ok (.goto (-25), 3) := by decide +kernel
theorem dX6_search_70 : decode cX6_search 70 = .ok (.aload_n 0, 1) := by decide +kernel
