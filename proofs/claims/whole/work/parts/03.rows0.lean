set_option maxRecDepth 20000 in
theorem ggX0_init_X4_init : GoodIn wsX0_init wsX4_init := goodIn_r _ [18, 19, 2, 3, 9, 20, 21, 22, 23] (by decide +kernel) (by decide +kernel)
set_option maxRecDepth 20000 in
theorem gX0_init_X4_init : GoodIn wsX0_init (wsX4_init) := ggX0_init_X4_init
theorem dX0_init_0 : decode cX0_init 0 = .ok (.aload_n 0, 1) := by decide +kernel
theorem dX0_init_1 : decode cX0_init 1 = .ok (.invokespecial 3, 3) := by decide +kernel
theorem dX0_init_4 : decode cX0_init 4 = .ok (.aload_n 0, 1) := by decide +kernel
theorem dX0_init_5 : decode cX0_init 5 = .ok (.new 9, 3) := by decide +kernel
theorem dX0_init_8 : decode cX0_init 8 = .ok (.dup, 1) := by decide +kernel
theorem dX0_init_9 : decode cX0_init 9 = .ok (.sipush 150, 3) := by decide +kernel
theorem dX0_init_12 : decode cX0_init 12 = .ok (.invokespecial 11, 3) := by decide +kernel
theorem dX0_init_15 : decode cX0_init 15 = .ok (.putfield 14, 3) := by decide +kernel
theorem dX0_init_18 : decode cX0_init 18 = .ok (.aload_n 0, 1) := by decide +kernel
theorem dX0_init_19 : decode cX0_init 19 = .ok (.new 9, 3) := by decide +kernel
theorem dX0_init_22 : decode cX0_init 22 = .ok (.dup, 1) := by decide +kernel
theorem dX0_init_23 : decode cX0_init 23 = .ok (.sipush 300, 3) := by decide +kernel
theorem dX0_init_26 : decode cX0_init 26 = .ok (.invokespecial 11, 3) := by decide +kernel
theorem dX0_init_29 : decode cX0_init 29 = .ok (.putfield 20, 3) := by decide +kernel
theorem dX0_init_32 : decode cX0_init 32 = .ok (.aload_n 0, 1) := by decide +kernel
theorem dX0_init_33 : decode cX0_init 33 = .ok (.sipush 301, 3) := by decide +kernel
theorem dX0_init_36 : decode cX0_init 36 = .ok (.newarray .int, 2) := by decide +kernel
theorem dX0_init_38 : decode cX0_init 38 = .ok (.putfield 23, 3) := by decide +kernel
theorem dX0_init_41 : decode cX0_init 41 = .ok (.aload_n 0, 1) := by decide +kernel
theorem dX0_init_42 : decode cX0_init 42 = .ok (.sipush 301, 3) := by decide +kernel
theorem dX0_init_45 : decode cX0_init 45 = .ok (.newarray .int, 2) := by decide +kernel
theorem dX0_init_47 : decode cX0_init 47 = .ok (.putfield 27, 3) := by decide +kernel
theorem dX0_init_50 : decode cX0_init 50 = .ok (.aload_n 0, 1) := by decide +kernel
theorem dX0_init_51 : decode cX0_init 51 = .ok (.sipush 301, 3) := by decide +kernel
theorem dX0_init_54 : decode cX0_init 54 = .ok (.newarray .int, 2) := by decide +kernel
theorem dX0_init_56 : decode cX0_init 56 = .ok (.putfield 30, 3) := by decide +kernel
theorem dX0_init_59 : decode cX0_init 59 = .ok (.aload_n 0, 1) := by decide +kernel
theorem dX0_init_60 : decode cX0_init 60 = .ok (.iconst 0, 1) := by decide +kernel
theorem dX0_init_61 : decode cX0_init 61 = .ok (.putfield 33, 3) := by decide +kernel
theorem dX0_init_64 : decode cX0_init 64 = .ok (.aload_n 0, 1) := by decide +kernel
theorem dX0_init_65 : decode cX0_init 65 = .ok (.sipush 151, 3) := by decide +kernel
theorem dX0_init_68 : decode cX0_init 68 = .ok (.newarray .int, 2) := by decide +kernel
theorem dX0_init_70 : decode cX0_init 70 = .ok (.putfield 37, 3) := by decide +kernel
theorem dX0_init_73 : decode cX0_init 73 = .ok (.aload_n 0, 1) := by decide +kernel
theorem dX0_init_74 : decode cX0_init 74 = .ok (.sipush 151, 3) := by decide +kernel
theorem dX0_init_77 : decode cX0_init 77 = .ok (.newarray .int, 2) := by decide +kernel
theorem dX0_init_79 : decode cX0_init 79 = .ok (.putfield 40, 3) := by decide +kernel
theorem dX0_init_82 : decode cX0_init 82 = .ok (.return_, 1) := by decide +kernel
theorem dX0_size_0 : decode cX0_size 0 = .ok (.aload_n 0, 1) := by decide +kernel
theorem dX0_size_1 : decode cX0_size 1 = .ok (.getfield 33, 3) := by decide +kernel
theorem dX0_size_4 : decode cX0_size 4 = .ok (.ireturn, 1) := by decide +kernel
theorem dX0_endOf_0 : decode cX0_endOf 0 = .ok (.aload_n 0, 1) := by decide +kernel
theorem dX0_endOf_1 : decode cX0_endOf 1 = .ok (.getfield 23, 3) := by decide +kernel
theorem dX0_endOf_4 : decode cX0_endOf 4 = .ok (.iload_n 1, 1) := by decide +kernel
theorem dX0_endOf_5 : decode cX0_endOf 5 = .ok (.iaload, 1) := by decide +kernel
theorem dX0_endOf_6 : decode cX0_endOf 6 = .ok (.ireturn, 1) := by decide +kernel
theorem dX0_distanceOf_0 : decode cX0_distanceOf 0 = .ok (.aload_n 0, 1) := by decide +kernel
theorem dX0_distanceOf_1 : decode cX0_distanceOf 1 = .ok (.getfield 27, 3) := by decide +kernel
theorem dX0_distanceOf_4 : decode cX0_distanceOf 4 = .ok (.iload_n 1, 1) := by decide +kernel
theorem dX0_distanceOf_5 : decode cX0_distanceOf 5 = .ok (.iaload, 1) := by decide +kernel
theorem dX0_distanceOf_6 : decode cX0_distanceOf 6 = .ok (.ireturn, 1) := by decide +kernel
theorem dX0_startOf_0 : decode cX0_startOf 0 = .ok (.aload_n 0, 1) := by decide +kernel
theorem dX0_startOf_1 : decode cX0_startOf 1 = .ok (.getfield 30, 3) := by decide +kernel
theorem dX0_startOf_4 : decode cX0_startOf 4 = .ok (.iload_n 1, 1) := by decide +kernel
theorem dX0_startOf_5 : decode cX0_startOf 5 = .ok (.iaload, 1) := by decide +kernel
theorem dX0_startOf_6 : decode cX0_startOf 6 = .ok (.ireturn, 1) := by decide +kernel
theorem dX0_searchedPattern_0 : decode cX0_searchedPattern 0 = .ok (.aload_n 0, 1) := by decide +kernel
theorem dX0_searchedPattern_1 : decode cX0_searchedPattern 1 = .ok (.getfield 14, 3) := by decide +kernel
theorem dX0_searchedPattern_4 : decode cX0_searchedPattern 4 = .ok (.areturn, 1) := by decide +kernel
theorem dX0_searchedText_0 : decode cX0_searchedText 0 = .ok (.aload_n 0, 1) := by decide +kernel
theorem dX0_searchedText_1 : decode cX0_searchedText 1 = .ok (.getfield 20, 3) := by decide +kernel
theorem dX0_searchedText_4 : decode cX0_searchedText 4 = .ok (.areturn, 1) := by decide +kernel
theorem dX0_leastDistance_0 : decode cX0_leastDistance 0 = .ok (.iconst (-1), 1) := by decide +kernel
theorem dX0_leastDistance_1 : decode cX0_leastDistance 1 = .ok (.istore_n 1, 1) := by decide +kernel
theorem dX0_leastDistance_2 : decode cX0_leastDistance 2 = .ok (.iconst 0, 1) := by decide +kernel
theorem dX0_leastDistance_3 : decode cX0_leastDistance 3 = .ok (.istore_n 2, 1) := by decide +kernel
theorem dX0_leastDistance_4 : decode cX0_leastDistance 4 = .ok (.iload_n 2, 1) := by decide +kernel
theorem dX0_leastDistance_5 : decode cX0_leastDistance 5 = .ok (.aload_n 0, 1) := by decide +kernel
theorem dX0_leastDistance_6 : decode cX0_leastDistance 6 = .ok (.getfield 33, 3) := by decide +kernel
theorem dX0_leastDistance_9 : decode cX0_leastDistance 9 = .ok (.if_icmp .ge 31, 3) := by decide +kernel
theorem dX0_leastDistance_12 : decode cX0_leastDistance 12 = .ok (.iload_n 1, 1) := by decide +kernel
theorem dX0_leastDistance_13 : decode cX0_leastDistance 13 = .ok (.iconst (-1), 1) := by decide +kernel
theorem dX0_leastDistance_14 : decode cX0_leastDistance 14 = .ok (.if_icmp .eq 13, 3) := by decide +kernel
theorem dX0_leastDistance_17 : decode cX0_leastDistance 17 = .ok (.aload_n 0, 1) := by decide +kernel
theorem dX0_leastDistance_18 : decode cX0_leastDistance 18 = .ok (.getfield 27, 3) := by decide +kernel
theorem dX0_leastDistance_21 : decode cX0_leastDistance 21 = .ok (.iload_n 2, 1) := by decide +kernel
theorem dX0_leastDistance_22 : decode cX0_leastDistance 22 = .ok (.iaload, 1) := by decide +kernel
theorem dX0_leastDistance_23 : decode cX0_leastDistance 23 = .ok (.iload_n 1, 1) := by decide +kernel
theorem dX0_leastDistance_24 : decode cX0_leastDistance 24 = .ok (.if_icmp .ge 10, 3) := by decide +kernel
theorem dX0_leastDistance_27 : decode cX0_leastDistance 27 = .ok (.aload_n 0, 1) := by decide +kernel
theorem dX0_leastDistance_28 : decode cX0_leastDistance 28 = .ok (.getfield 27, 3) := by decide +kernel
theorem dX0_leastDistance_31 : decode cX0_leastDistance 31 = .ok (.iload_n 2, 1) := by decide +kernel
theorem dX0_leastDistance_32 : decode cX0_leastDistance 32 = .ok (.iaload, 1) := by decide +kernel
theorem dX0_leastDistance_33 : decode cX0_leastDistance 33 = .ok (.istore_n 1, 1) := by decide +kernel
theorem dX0_leastDistance_34 : decode cX0_leastDistance 34 = .ok (.iinc 2 1, 3) := by decide +kernel
theorem dX0_leastDistance_37 : decode cX0_leastDistance 37 = .ok (.goto (-33), 3) := by decide +kernel
theorem dX0_leastDistance_40 : decode cX0_leastDistance 40 = .ok (.iload_n 1, 1) := by decide +kernel
theorem dX0_leastDistance_41 : decode cX0_leastDistance 41 = .ok (.ireturn, 1) := by decide +kernel
set_option maxRecDepth 20000 in
theorem ggX0_lookFor_X4_becomeCopyOf : GoodIn wsX0_lookFor wsX4_becomeCopyOf := goodIn_r _ [8, 9, 10, 11, 12, 13, 14, 15, 16, 17, 18, 57, 58] (by decide +kernel) (by decide +kernel)
set_option maxRecDepth 20000 in
theorem gX0_lookFor_X4_becomeCopyOf : GoodIn wsX0_lookFor (wsV RX0 43 RX4 yX4_becomeCopyOf wsX4_becomeCopyOf) := goodIn_app (goodIn_of _ (by decide +kernel)) ggX0_lookFor_X4_becomeCopyOf
set_option maxRecDepth 20000 in
theorem ggX0_lookFor_X0_standAtFirstPlace : GoodIn wsX0_lookFor wsX0_standAtFirstPlace := goodIn_r _ [23, 1, 24, 25, 26, 27, 28, 7, 29, 9, 49, 50, 51, 52, 53, 54, 55, 56, 57, 58] (by decide +kernel) (by decide +kernel)
set_option maxRecDepth 20000 in
theorem gX0_lookFor_X0_standAtFirstPlace : GoodIn wsX0_lookFor (wsV RX0 47 RX0 yX0_standAtFirstPlace wsX0_standAtFirstPlace) := goodIn_app (goodIn_of _ (by decide +kernel)) ggX0_lookFor_X0_standAtFirstPlace
set_option maxRecDepth 20000 in
theorem ggX0_lookFor_X0_keepWithin : GoodIn wsX0_lookFor wsX0_keepWithin := goodIn_r _ [33, 1, 2, 24, 3, 34, 35, 36, 25, 26, 27, 28, 7, 29, 9, 49, 50, 51, 52, 53, 54, 55, 56, 57, 58] (by decide +kernel) (by decide +kernel)
set_option maxRecDepth 20000 in
theorem gX0_lookFor_X0_keepWithin : GoodIn wsX0_lookFor (wsV RX0 50 RX0 yX0_keepWithin wsX0_keepWithin) := goodIn_app (goodIn_of _ (by decide +kernel)) ggX0_lookFor_X0_keepWithin
set_option maxRecDepth 20000 in
theorem ggX0_lookFor_X4_size : GoodIn wsX0_lookFor wsX4_size := goodIn_r _ [29, 9, 57, 58] (by decide +kernel) (by decide +kernel)
set_option maxRecDepth 20000 in
theorem gX0_lookFor_X4_size : GoodIn wsX0_lookFor (wsV RX0 54 RX4 yX4_size wsX4_size) := goodIn_app (goodIn_of _ (by decide +kernel)) ggX0_lookFor_X4_size
set_option maxRecDepth 20000 in
theorem ggX0_lookFor_X0_moveTo : GoodIn wsX0_lookFor wsX0_moveTo := goodIn_r _ [40, 2, 24, 25, 1, 41, 42, 43, 7, 44, 10, 26, 27, 28, 29, 9, 45, 46, 47, 22, 48, 49, 50, 51, 52, 53, 54, 55, 56, 57, 58] (by decide +kernel) (by decide +kernel)
set_option maxRecDepth 20000 in
theorem gX0_lookFor_X0_moveTo : GoodIn wsX0_lookFor (wsV RX0 57 RX0 yX0_moveTo wsX0_moveTo) := goodIn_app (goodIn_of _ (by decide +kernel)) ggX0_lookFor_X0_moveTo
theorem dX0_lookFor_0 : decode cX0_lookFor 0 = .ok (.aload_n 0, 1) := by decide +kernel
theorem dX0_lookFor_1 : decode cX0_lookFor 1 = .ok (.getfield 14, 3) := by decide +kernel
theorem dX0_lookFor_4 : decode cX0_lookFor 4 = .ok (.aload_n 1, 1) := by decide +kernel
theorem dX0_lookFor_5 : decode cX0_lookFor 5 = .ok (.invokevirtual 43, 3) := by decide +kernel
theorem dX0_lookFor_8 : decode cX0_lookFor 8 = .ok (.aload_n 0, 1) := by decide +kernel
theorem dX0_lookFor_9 : decode cX0_lookFor 9 = .ok (.getfield 20, 3) := by decide +kernel
theorem dX0_lookFor_12 : decode cX0_lookFor 12 = .ok (.aload_n 2, 1) := by decide +kernel
theorem dX0_lookFor_13 : decode cX0_lookFor 13 = .ok (.invokevirtual 43, 3) := by decide +kernel
theorem dX0_lookFor_16 : decode cX0_lookFor 16 = .ok (.aload_n 0, 1) := by decide +kernel
theorem dX0_lookFor_17 : decode cX0_lookFor 17 = .ok (.iconst 0, 1) := by decide +kernel
theorem dX0_lookFor_18 : decode cX0_lookFor 18 = .ok (.putfield 33, 3) := by decide +kernel
theorem dX0_lookFor_21 : decode cX0_lookFor 21 = .ok (.aload_n 0, 1) := by decide +kernel
theorem dX0_lookFor_22 : decode cX0_lookFor 22 = .ok (.invokevirtual 47, 3) := by decide +kernel
theorem dX0_lookFor_25 : decode cX0_lookFor 25 = .ok (.aload_n 0, 1) := by decide +kernel
theorem dX0_lookFor_26 : decode cX0_lookFor 26 = .ok (.iload 4, 2) := by decide +kernel
theorem dX0_lookFor_28 : decode cX0_lookFor 28 = .ok (.iconst 0, 1) := by decide +kernel
theorem dX0_lookFor_29 : decode cX0_lookFor 29 = .ok (.iload_n 3, 1) := by decide +kernel
theorem dX0_lookFor_30 : decode cX0_lookFor 30 = .ok (.invokevirtual 50, 3) := by decide +kernel
theorem dX0_lookFor_33 : decode cX0_lookFor 33 = .ok (.iconst 1, 1) := by decide +kernel
theorem dX0_lookFor_34 : decode cX0_lookFor 34 = .ok (.istore 5, 2) := by decide +kernel
theorem dX0_lookFor_36 : decode cX0_lookFor 36 = .ok (.iload 5, 2) := by decide +kernel
theorem dX0_lookFor_38 : decode cX0_lookFor 38 = .ok (.aload_n 0, 1) := by decide +kernel
theorem dX0_lookFor_39 : decode cX0_lookFor 39 = .ok (.getfield 20, 3) := by decide +kernel
theorem dX0_lookFor_42 : decode cX0_lookFor 42 = .ok (.invokevirtual 54, 3) := by decide +kernel
theorem dX0_lookFor_45 : decode cX0_lookFor 45 = .ok (.if_icmp .gt 25, 3) := by decide +kernel
theorem dX0_lookFor_48 : decode cX0_lookFor 48 = .ok (.aload_n 0, 1) := by decide +kernel
theorem dX0_lookFor_49 : decode cX0_lookFor 49 = .ok (.iload 5, 2) := by decide +kernel
theorem dX0_lookFor_51 : decode cX0_lookFor 51 = .ok (.iload_n 3, 1) := by decide +kernel
theorem dX0_lookFor_52 : decode cX0_lookFor 52 = .ok (.invokevirtual 57, 3) := by decide +kernel
theorem dX0_lookFor_55 : decode cX0_lookFor 55 = .ok (.aload_n 0, 1) := by decide +kernel
theorem dX0_lookFor_56 : decode cX0_lookFor 56 = .ok (.iload 4, 2) := by decide +kernel
theorem dX0_lookFor_58 : decode cX0_lookFor 58 = .ok (.iload 5, 2) := by decide +kernel
theorem dX0_lookFor_60 : decode cX0_lookFor 60 = .ok (.iload_n 3, 1) := by decide +kernel
theorem dX0_lookFor_61 : decode cX0_lookFor 61 = .ok (.invokevirtual 50, 3) := by decide +kernel
theorem dX0_lookFor_64 : decode cX0_lookFor 64 = .ok (.iinc 5 1, 3) := by decide +kernel
theorem dX0_lookFor_67 : decode cX0_lookFor 67 = .ok (.goto (-31), 3) := by decide +kernel
theorem dX0_lookFor_70 : decode cX0_lookFor 70 = .ok (.return_, 1) := by decide +kernel
set_option maxRecDepth 20000 in
theorem ggX0_standAtFirstPlace_X4_size : GoodIn wsX0_standAtFirstPlace wsX4_size := goodIn_r _ [8, 9, 18, 19] (by decide +kernel) (by decide +kernel)
set_option maxRecDepth 20000 in
theorem gX0_standAtFirstPlace_X4_size : GoodIn wsX0_standAtFirstPlace (wsV RX0 54 RX4 yX4_size wsX4_size) := goodIn_app (goodIn_of _ (by decide +kernel)) ggX0_standAtFirstPlace_X4_size
theorem dX0_standAtFirstPlace_0 : decode cX0_standAtFirstPlace 0 = .ok (.iconst 0, 1) := by decide +kernel
theorem dX0_standAtFirstPlace_1 : decode cX0_standAtFirstPlace 1 = .ok (.istore_n 1, 1) := by decide +kernel
theorem dX0_standAtFirstPlace_2 : decode cX0_standAtFirstPlace 2 = .ok (.iload_n 1, 1) := by decide +kernel
theorem dX0_standAtFirstPlace_3 : decode cX0_standAtFirstPlace 3 = .ok (.aload_n 0, 1) := by decide +kernel
theorem dX0_standAtFirstPlace_4 : decode cX0_standAtFirstPlace 4 = .ok (.getfield 14, 3) := by decide +kernel
theorem dX0_standAtFirstPlace_7 : decode cX0_standAtFirstPlace 7 = .ok (.invokevirtual 54, 3) := by decide +kernel
theorem dX0_standAtFirstPlace_10 : decode cX0_standAtFirstPlace 10 = .ok (.if_icmp .gt 23, 3) := by decide +kernel
theorem dX0_standAtFirstPlace_13 : decode cX0_standAtFirstPlace 13 = .ok (.aload_n 0, 1) := by decide +kernel
theorem dX0_standAtFirstPlace_14 : decode cX0_standAtFirstPlace 14 = .ok (.getfield 37, 3) := by decide +kernel
theorem dX0_standAtFirstPlace_17 : decode cX0_standAtFirstPlace 17 = .ok (.iload_n 1, 1) := by decide +kernel
theorem dX0_standAtFirstPlace_18 : decode cX0_standAtFirstPlace 18 = .ok (.iload_n 1, 1) := by decide +kernel
theorem dX0_standAtFirstPlace_19 : decode cX0_standAtFirstPlace 19 = .ok (.iastore, 1) := by decide +kernel
theorem dX0_standAtFirstPlace_20 : decode cX0_standAtFirstPlace 20 = .ok (.aload_n 0, 1) := by decide +kernel
theorem dX0_standAtFirstPlace_21 : decode cX0_standAtFirstPlace 21 = .ok (.getfield 40, 3) := by decide +kernel
theorem dX0_standAtFirstPlace_24 : decode cX0_standAtFirstPlace 24 = .ok (.iload_n 1, 1) := by decide +kernel
theorem dX0_standAtFirstPlace_25 : decode cX0_standAtFirstPlace 25 = .ok (.iconst 0, 1) := by decide +kernel
theorem dX0_standAtFirstPlace_26 : decode cX0_standAtFirstPlace 26 = .ok (.iastore, 1) := by decide +kernel
theorem dX0_standAtFirstPlace_27 : decode cX0_standAtFirstPlace 27 = .ok (.iinc 1 1, 3) := by decide +kernel
theorem dX0_standAtFirstPlace_30 : decode cX0_standAtFirstPlace 30 = .ok (.goto (-28), 3) := by decide +kernel
theorem dX0_standAtFirstPlace_33 : decode cX0_standAtFirstPlace 33 = .ok (.return_, 1) := by decide +kernel
set_option maxRecDepth 20000 in
theorem ggX0_moveTo_X4_signBehind : GoodIn wsX0_moveTo wsX4_signBehind := goodIn_r _ [9, 10, 29, 30] (by decide +kernel) (by decide +kernel)
set_option maxRecDepth 20000 in
theorem gX0_moveTo_X4_signBehind : GoodIn wsX0_moveTo (wsV RX0 61 RX4 yX4_signBehind wsX4_signBehind) := goodIn_app (goodIn_of _ (by decide +kernel)) ggX0_moveTo_X4_signBehind
set_option maxRecDepth 20000 in
theorem ggX0_moveTo_X4_size : GoodIn wsX0_moveTo wsX4_size := goodIn_r _ [14, 15, 29, 30] (by decide +kernel) (by decide +kernel)
set_option maxRecDepth 20000 in
theorem gX0_moveTo_X4_size : GoodIn wsX0_moveTo (wsV RX0 54 RX4 yX4_size wsX4_size) := goodIn_app (goodIn_of _ (by decide +kernel)) ggX0_moveTo_X4_size
set_option maxRecDepth 20000 in
theorem ggX0_moveTo_X0_takeIfBetter : GoodIn wsX0_moveTo wsX0_takeIfBetter := goodIn_r _ [20, 2, 3, 21, 22, 23, 24, 25, 26, 27, 28] (by decide +kernel) (by decide +kernel)
set_option maxRecDepth 20000 in
theorem gX0_moveTo_X0_takeIfBetter : GoodIn wsX0_moveTo (wsV RX0 65 RX0 yX0_takeIfBetter wsX0_takeIfBetter) := goodIn_app (goodIn_of _ (by decide +kernel)) ggX0_moveTo_X0_takeIfBetter
theorem dX0_moveTo_0 : decode cX0_moveTo 0 = .ok (.aload_n 0, 1) := by decide +kernel
theorem dX0_moveTo_1 : decode cX0_moveTo 1 = .ok (.getfield 20, 3) := by decide +kernel
theorem dX0_moveTo_4 : decode cX0_moveTo 4 = .ok (.iload_n 1, 1) := by decide +kernel
theorem dX0_moveTo_5 : decode cX0_moveTo 5 = .ok (.iconst 1, 1) := by decide +kernel
theorem dX0_moveTo_6 : decode cX0_moveTo 6 = .ok (.isub, 1) := by decide +kernel
theorem dX0_moveTo_7 : decode cX0_moveTo 7 = .ok (.invokevirtual 61, 3) := by decide +kernel
theorem dX0_moveTo_10 : decode cX0_moveTo 10 = .ok (.istore_n 3, 1) := by decide +kernel
theorem dX0_moveTo_11 : decode cX0_moveTo 11 = .ok (.aload_n 0, 1) := by decide +kernel
theorem dX0_moveTo_12 : decode cX0_moveTo 12 = .ok (.getfield 37, 3) := by decide +kernel
theorem dX0_moveTo_15 : decode cX0_moveTo 15 = .ok (.iconst 0, 1) := by decide +kernel
theorem dX0_moveTo_16 : decode cX0_moveTo 16 = .ok (.iaload, 1) := by decide +kernel
theorem dX0_moveTo_17 : decode cX0_moveTo 17 = .ok (.istore 4, 2) := by decide +kernel
theorem dX0_moveTo_19 : decode cX0_moveTo 19 = .ok (.aload_n 0, 1) := by decide +kernel
theorem dX0_moveTo_20 : decode cX0_moveTo 20 = .ok (.getfield 40, 3) := by decide +kernel
theorem dX0_moveTo_23 : decode cX0_moveTo 23 = .ok (.iconst 0, 1) := by decide +kernel
theorem dX0_moveTo_24 : decode cX0_moveTo 24 = .ok (.iaload, 1) := by decide +kernel
theorem dX0_moveTo_25 : decode cX0_moveTo 25 = .ok (.istore 5, 2) := by decide +kernel
theorem dX0_moveTo_27 : decode cX0_moveTo 27 = .ok (.aload_n 0, 1) := by decide +kernel
theorem dX0_moveTo_28 : decode cX0_moveTo 28 = .ok (.getfield 37, 3) := by decide +kernel
theorem dX0_moveTo_31 : decode cX0_moveTo 31 = .ok (.iconst 0, 1) := by decide +kernel
theorem dX0_moveTo_32 : decode cX0_moveTo 32 = .ok (.iload_n 2, 1) := by decide +kernel
theorem dX0_moveTo_33 : decode cX0_moveTo 33 = .ok (.iconst 2, 1) := by decide +kernel
theorem dX0_moveTo_34 : decode cX0_moveTo 34 = .ok (.if_icmp .ne 7, 3) := by decide +kernel
theorem dX0_moveTo_37 : decode cX0_moveTo 37 = .ok (.iconst 0, 1) := by decide +kernel
theorem dX0_moveTo_38 : decode cX0_moveTo 38 = .ok (.goto 4, 3) := by decide +kernel
theorem dX0_moveTo_41 : decode cX0_moveTo 41 = .ok (.iload_n 1, 1) := by decide +kernel
theorem dX0_moveTo_42 : decode cX0_moveTo 42 = .ok (.iastore, 1) := by decide +kernel
theorem dX0_moveTo_43 : decode cX0_moveTo 43 = .ok (.aload_n 0, 1) := by decide +kernel
theorem dX0_moveTo_44 : decode cX0_moveTo 44 = .ok (.getfield 40, 3) := by decide +kernel
theorem dX0_moveTo_47 : decode cX0_moveTo 47 = .ok (.iconst 0, 1) := by decide +kernel
theorem dX0_moveTo_48 : decode cX0_moveTo 48 = .ok (.iload_n 2, 1) := by decide +kernel
theorem dX0_moveTo_49 : decode cX0_moveTo 49 = .ok (.iconst 2, 1) := by decide +kernel
theorem dX0_moveTo_50 : decode cX0_moveTo 50 = .ok (.if_icmp .ne 7, 3) := by decide +kernel
theorem dX0_moveTo_53 : decode cX0_moveTo 53 = .ok (.iload_n 1, 1) := by decide +kernel
theorem dX0_moveTo_54 : decode cX0_moveTo 54 = .ok (.goto 4, 3) := by decide +kernel
theorem dX0_moveTo_57 : decode cX0_moveTo 57 = .ok (.iconst 0, 1) := by decide +kernel
theorem dX0_moveTo_58 : decode cX0_moveTo 58 = .ok (.iastore, 1) := by decide +kernel
theorem dX0_moveTo_59 : decode cX0_moveTo 59 = .ok (.iconst 1, 1) := by decide +kernel
theorem dX0_moveTo_60 : decode cX0_moveTo 60 = .ok (.istore 6, 2) := by decide +kernel
theorem dX0_moveTo_62 : decode cX0_moveTo 62 = .ok (.iload 6, 2) := by decide +kernel
theorem dX0_moveTo_64 : decode cX0_moveTo 64 = .ok (.aload_n 0, 1) := by decide +kernel
theorem dX0_moveTo_65 : decode cX0_moveTo 65 = .ok (.getfield 14, 3) := by decide +kernel
theorem dX0_moveTo_68 : decode cX0_moveTo 68 = .ok (.invokevirtual 54, 3) := by decide +kernel
theorem dX0_moveTo_71 : decode cX0_moveTo 71 = .ok (.if_icmp .gt 116, 3) := by decide +kernel
theorem dX0_moveTo_74 : decode cX0_moveTo 74 = .ok (.aload_n 0, 1) := by decide +kernel
theorem dX0_moveTo_75 : decode cX0_moveTo 75 = .ok (.getfield 37, 3) := by decide +kernel
theorem dX0_moveTo_78 : decode cX0_moveTo 78 = .ok (.iload 6, 2) := by decide +kernel
theorem dX0_moveTo_80 : decode cX0_moveTo 80 = .ok (.iaload, 1) := by decide +kernel
theorem dX0_moveTo_81 : decode cX0_moveTo 81 = .ok (.istore 7, 2) := by decide +kernel
theorem dX0_moveTo_83 : decode cX0_moveTo 83 = .ok (.aload_n 0, 1) := by decide +kernel
theorem dX0_moveTo_84 : decode cX0_moveTo 84 = .ok (.getfield 40, 3) := by decide +kernel
theorem dX0_moveTo_87 : decode cX0_moveTo 87 = .ok (.iload 6, 2) := by decide +kernel
theorem dX0_moveTo_89 : decode cX0_moveTo 89 = .ok (.iaload, 1) := by decide +kernel
theorem dX0_moveTo_90 : decode cX0_moveTo 90 = .ok (.istore 8, 2) := by decide +kernel
theorem dX0_moveTo_92 : decode cX0_moveTo 92 = .ok (.aload_n 0, 1) := by decide +kernel
theorem dX0_moveTo_93 : decode cX0_moveTo 93 = .ok (.getfield 14, 3) := by decide +kernel
theorem dX0_moveTo_96 : decode cX0_moveTo 96 = .ok (.iload 6, 2) := by decide +kernel
theorem dX0_moveTo_98 : decode cX0_moveTo 98 = .ok (.iconst 1, 1) := by decide +kernel
theorem dX0_moveTo_99 : decode cX0_moveTo 99 = .ok (.isub, 1) := by decide +kernel
theorem dX0_moveTo_100 : decode cX0_moveTo 100 = .ok (.invokevirtual 61, 3) := by decide +kernel
theorem dX0_moveTo_103 : decode cX0_moveTo 103 = .ok (.iload_n 3, 1) := by decide +kernel
theorem dX0_moveTo_104 : decode cX0_moveTo 104 = .ok (.if_icmp .ne 7, 3) := by decide +kernel
theorem dX0_moveTo_107 : decode cX0_moveTo 107 = .ok (.iconst 0, 1) := by decide +kernel
theorem dX0_moveTo_108 : decode cX0_moveTo 108 = .ok (.goto 4, 3) := by decide +kernel
theorem dX0_moveTo_111 : decode cX0_moveTo 111 = .ok (.iconst 1, 1) := by decide +kernel
theorem dX0_moveTo_112 : decode cX0_moveTo 112 = .ok (.istore 9, 2) := by decide +kernel
theorem dX0_moveTo_114 : decode cX0_moveTo 114 = .ok (.aload_n 0, 1) := by decide +kernel
theorem dX0_moveTo_115 : decode cX0_moveTo 115 = .ok (.getfield 37, 3) := by decide +kernel
theorem dX0_moveTo_118 : decode cX0_moveTo 118 = .ok (.iload 6, 2) := by decide +kernel
theorem dX0_moveTo_120 : decode cX0_moveTo 120 = .ok (.iload 4, 2) := by decide +kernel
theorem dX0_moveTo_122 : decode cX0_moveTo 122 = .ok (.iload 9, 2) := by decide +kernel
theorem dX0_moveTo_124 : decode cX0_moveTo 124 = .ok (.iadd, 1) := by decide +kernel
theorem dX0_moveTo_125 : decode cX0_moveTo 125 = .ok (.iastore, 1) := by decide +kernel
theorem dX0_moveTo_126 : decode cX0_moveTo 126 = .ok (.aload_n 0, 1) := by decide +kernel
theorem dX0_moveTo_127 : decode cX0_moveTo 127 = .ok (.getfield 40, 3) := by decide +kernel
theorem dX0_moveTo_130 : decode cX0_moveTo 130 = .ok (.iload 6, 2) := by decide +kernel
theorem dX0_moveTo_132 : decode cX0_moveTo 132 = .ok (.iload 5, 2) := by decide +kernel
theorem dX0_moveTo_134 : decode cX0_moveTo 134 = .ok (.iastore, 1) := by decide +kernel
theorem dX0_moveTo_135 : decode cX0_moveTo 135 = .ok (.aload_n 0, 1) := by decide +kernel
theorem dX0_moveTo_136 : decode cX0_moveTo 136 = .ok (.iload 6, 2) := by decide +kernel
theorem dX0_moveTo_138 : decode cX0_moveTo 138 = .ok (.aload_n 0, 1) := by decide +kernel
theorem dX0_moveTo_139 : decode cX0_moveTo 139 = .ok (.getfield 37, 3) := by decide +kernel
theorem dX0_moveTo_142 : decode cX0_moveTo 142 = .ok (.iload 6, 2) := by decide +kernel
theorem dX0_moveTo_144 : decode cX0_moveTo 144 = .ok (.iconst 1, 1) := by decide +kernel
theorem dX0_moveTo_145 : decode cX0_moveTo 145 = .ok (.isub, 1) := by decide +kernel
theorem dX0_moveTo_146 : decode cX0_moveTo 146 = .ok (.iaload, 1) := by decide +kernel
theorem dX0_moveTo_147 : decode cX0_moveTo 147 = .ok (.iconst 1, 1) := by decide +kernel
theorem dX0_moveTo_148 : decode cX0_moveTo 148 = .ok (.iadd, 1) := by decide +kernel
theorem dX0_moveTo_149 : decode cX0_moveTo 149 = .ok (.aload_n 0, 1) := by decide +kernel
theorem dX0_moveTo_150 : decode cX0_moveTo 150 = .ok (.getfield 40, 3) := by decide +kernel
theorem dX0_moveTo_153 : decode cX0_moveTo 153 = .ok (.iload 6, 2) := by decide +kernel
theorem dX0_moveTo_155 : decode cX0_moveTo 155 = .ok (.iconst 1, 1) := by decide +kernel
theorem dX0_moveTo_156 : decode cX0_moveTo 156 = .ok (.isub, 1) := by decide +kernel
theorem dX0_moveTo_157 : decode cX0_moveTo 157 = .ok (.iaload, 1) := by decide +kernel
theorem dX0_moveTo_158 : decode cX0_moveTo 158 = .ok (.invokevirtual 65, 3) := by decide +kernel
theorem dX0_moveTo_161 : decode cX0_moveTo 161 = .ok (.aload_n 0, 1) := by decide +kernel
theorem dX0_moveTo_162 : decode cX0_moveTo 162 = .ok (.iload 6, 2) := by decide +kernel
theorem dX0_moveTo_164 : decode cX0_moveTo 164 = .ok (.iload 7, 2) := by decide +kernel
theorem dX0_moveTo_166 : decode cX0_moveTo 166 = .ok (.iconst 1, 1) := by decide +kernel
theorem dX0_moveTo_167 : decode cX0_moveTo 167 = .ok (.iadd, 1) := by decide +kernel
theorem dX0_moveTo_168 : decode cX0_moveTo 168 = .ok (.iload 8, 2) := by decide +kernel
theorem dX0_moveTo_170 : decode cX0_moveTo 170 = .ok (.invokevirtual 65, 3) := by decide +kernel
theorem dX0_moveTo_173 : decode cX0_moveTo 173 = .ok (.iload 7, 2) := by decide +kernel
theorem dX0_moveTo_175 : decode cX0_moveTo 175 = .ok (.istore 4, 2) := by decide +kernel
theorem dX0_moveTo_177 : decode cX0_moveTo 177 = .ok (.iload 8, 2) := by decide +kernel
theorem dX0_moveTo_179 : decode cX0_moveTo 179 = .ok (.istore 5, 2) := by decide +kernel
theorem dX0_moveTo_181 : decode cX0_moveTo 181 = .ok (.iinc 6 1, 3) := by decide +kernel
theorem dX0_moveTo_184 : decode cX0_moveTo 184 = .ok (.goto (-122), 3) := by decide +kernel
theorem dX0_moveTo_187 : decode cX0_moveTo 187 = .ok (.return_, 1) := by decide +kernel
theorem dX0_takeIfBetter_0 : decode cX0_takeIfBetter 0 = .ok (.iload_n 2, 1) := by decide +kernel
theorem dX0_takeIfBetter_1 : decode cX0_takeIfBetter 1 = .ok (.aload_n 0, 1) := by decide +kernel
theorem dX0_takeIfBetter_2 : decode cX0_takeIfBetter 2 = .ok (.getfield 37, 3) := by decide +kernel
theorem dX0_takeIfBetter_5 : decode cX0_takeIfBetter 5 = .ok (.iload_n 1, 1) := by decide +kernel
theorem dX0_takeIfBetter_6 : decode cX0_takeIfBetter 6 = .ok (.iaload, 1) := by decide +kernel
theorem dX0_takeIfBetter_7 : decode cX0_takeIfBetter 7 = .ok (.if_icmp .lt 23, 3) := by decide +kernel
theorem dX0_takeIfBetter_10 : decode cX0_takeIfBetter 10 = .ok (.iload_n 2, 1) := by decide +kernel
theorem dX0_takeIfBetter_11 : decode cX0_takeIfBetter 11 = .ok (.aload_n 0, 1) := by decide +kernel
theorem dX0_takeIfBetter_12 : decode cX0_takeIfBetter 12 = .ok (.getfield 37, 3) := by decide +kernel
theorem dX0_takeIfBetter_15 : decode cX0_takeIfBetter 15 = .ok (.iload_n 1, 1) := by decide +kernel
theorem dX0_takeIfBetter_16 : decode cX0_takeIfBetter 16 = .ok (.iaload, 1) := by decide +kernel
theorem dX0_takeIfBetter_17 : decode cX0_takeIfBetter 17 = .ok (.if_icmp .ne 27, 3) := by decide +kernel
theorem dX0_takeIfBetter_20 : decode cX0_takeIfBetter 20 = .ok (.iload_n 3, 1) := by decide +kernel
theorem dX0_takeIfBetter_21 : decode cX0_takeIfBetter 21 = .ok (.aload_n 0, 1) := by decide +kernel
theorem dX0_takeIfBetter_22 : decode cX0_takeIfBetter 22 = .ok (.getfield 40, 3) := by decide +kernel
theorem dX0_takeIfBetter_25 : decode cX0_takeIfBetter 25 = .ok (.iload_n 1, 1) := by decide +kernel
theorem dX0_takeIfBetter_26 : decode cX0_takeIfBetter 26 = .ok (.iaload, 1) := by decide +kernel
theorem dX0_takeIfBetter_27 : decode cX0_takeIfBetter 27 = .ok (.if_icmp .le 17, 3) := by decide +kernel
theorem dX0_takeIfBetter_30 : decode cX0_takeIfBetter 30 = .ok (.aload_n 0, 1) := by decide +kernel
theorem dX0_takeIfBetter_31 : decode cX0_takeIfBetter 31 = .ok (.getfield 37, 3) := by decide +kernel
theorem dX0_takeIfBetter_34 : decode cX0_takeIfBetter 34 = .ok (.iload_n 1, 1) := by decide +kernel
theorem dX0_takeIfBetter_35 : decode cX0_takeIfBetter 35 = .ok (.iload_n 2, 1) := by decide +kernel
theorem dX0_takeIfBetter_36 : decode cX0_takeIfBetter 36 = .ok (.iastore, 1) := by decide +kernel
theorem dX0_takeIfBetter_37 : decode cX0_takeIfBetter 37 = .ok (.aload_n 0, 1) := by decide +kernel
theorem dX0_takeIfBetter_38 : decode cX0_takeIfBetter 38 = .ok (.getfield 40, 3) := by decide +kernel
theorem dX0_takeIfBetter_41 : decode cX0_takeIfBetter 41 = .ok (.iload_n 1, 1) := by decide +kernel
theorem dX0_takeIfBetter_42 : decode cX0_takeIfBetter 42 = .ok (.iload_n 3, 1) := by decide +kernel
theorem dX0_takeIfBetter_43 : decode cX0_takeIfBetter 43 = .ok (.iastore, 1) := by decide +kernel
theorem dX0_takeIfBetter_44 : decode cX0_takeIfBetter 44 = .ok (.return_, 1) := by decide +kernel
set_option maxRecDepth 20000 in
theorem ggX0_keepWithin_X4_size : GoodIn wsX0_keepWithin wsX4_size := goodIn_r _ [13, 14, 23, 24] (by decide +kernel) (by decide +kernel)
set_option maxRecDepth 20000 in
theorem gX0_keepWithin_X4_size : GoodIn wsX0_keepWithin (wsV RX0 54 RX4 yX4_size wsX4_size) := goodIn_app (goodIn_of _ (by decide +kernel)) ggX0_keepWithin_X4_size
theorem dX0_keepWithin_0 : decode cX0_keepWithin 0 = .ok (.aload_n 0, 1) := by decide +kernel
theorem dX0_keepWithin_1 : decode cX0_keepWithin 1 = .ok (.getfield 14, 3) := by decide +kernel
theorem dX0_keepWithin_4 : decode cX0_keepWithin 4 = .ok (.invokevirtual 54, 3) := by decide +kernel
theorem dX0_keepWithin_7 : decode cX0_keepWithin 7 = .ok (.istore 4, 2) := by decide +kernel
theorem dX0_keepWithin_9 : decode cX0_keepWithin 9 = .ok (.iload_n 3, 1) := by decide +kernel
theorem dX0_keepWithin_10 : decode cX0_keepWithin 10 = .ok (.ifCond .ne 14, 3) := by decide +kernel
theorem dX0_keepWithin_13 : decode cX0_keepWithin 13 = .ok (.iload_n 2, 1) := by decide +kernel
theorem dX0_keepWithin_14 : decode cX0_keepWithin 14 = .ok (.aload_n 0, 1) := by decide +kernel
theorem dX0_keepWithin_15 : decode cX0_keepWithin 15 = .ok (.getfield 20, 3) := by decide +kernel
theorem dX0_keepWithin_18 : decode cX0_keepWithin 18 = .ok (.invokevirtual 54, 3) := by decide +kernel
theorem dX0_keepWithin_21 : decode cX0_keepWithin 21 = .ok (.if_icmp .ne 7, 3) := by decide +kernel
theorem dX0_keepWithin_24 : decode cX0_keepWithin 24 = .ok (.iconst 1, 1) := by decide +kernel
theorem dX0_keepWithin_25 : decode cX0_keepWithin 25 = .ok (.goto 4, 3) := by decide +kernel
theorem dX0_keepWithin_28 : decode cX0_keepWithin 28 = .ok (.iconst 0, 1) := by decide +kernel
theorem dX0_keepWithin_29 : decode cX0_keepWithin 29 = .ok (.istore 5, 2) := by decide +kernel
theorem dX0_keepWithin_31 : decode cX0_keepWithin 31 = .ok (.iload 5, 2) := by decide +kernel
theorem dX0_keepWithin_33 : decode cX0_keepWithin 33 = .ok (.ifCond .eq 78, 3) := by decide +kernel
theorem dX0_keepWithin_36 : decode cX0_keepWithin 36 = .ok (.aload_n 0, 1) := by decide +kernel
theorem dX0_keepWithin_37 : decode cX0_keepWithin 37 = .ok (.getfield 37, 3) := by decide +kernel
theorem dX0_keepWithin_40 : decode cX0_keepWithin 40 = .ok (.iload 4, 2) := by decide +kernel
theorem dX0_keepWithin_42 : decode cX0_keepWithin 42 = .ok (.iaload, 1) := by decide +kernel
theorem dX0_keepWithin_43 : decode cX0_keepWithin 43 = .ok (.iload_n 1, 1) := by decide +kernel
theorem dX0_keepWithin_44 : decode cX0_keepWithin 44 = .ok (.if_icmp .gt 67, 3) := by decide +kernel
theorem dX0_keepWithin_47 : decode cX0_keepWithin 47 = .ok (.aload_n 0, 1) := by decide +kernel
theorem dX0_keepWithin_48 : decode cX0_keepWithin 48 = .ok (.getfield 33, 3) := by decide +kernel
theorem dX0_keepWithin_51 : decode cX0_keepWithin 51 = .ok (.aload_n 0, 1) := by decide +kernel
theorem dX0_keepWithin_52 : decode cX0_keepWithin 52 = .ok (.getfield 23, 3) := by decide +kernel
theorem dX0_keepWithin_55 : decode cX0_keepWithin 55 = .ok (.arraylength, 1) := by decide +kernel
theorem dX0_keepWithin_56 : decode cX0_keepWithin 56 = .ok (.if_icmp .ge 55, 3) := by decide +kernel
theorem dX0_keepWithin_59 : decode cX0_keepWithin 59 = .ok (.aload_n 0, 1) := by decide +kernel
theorem dX0_keepWithin_60 : decode cX0_keepWithin 60 = .ok (.getfield 23, 3) := by decide +kernel
theorem dX0_keepWithin_63 : decode cX0_keepWithin 63 = .ok (.aload_n 0, 1) := by decide +kernel
theorem dX0_keepWithin_64 : decode cX0_keepWithin 64 = .ok (.getfield 33, 3) := by decide +kernel
theorem dX0_keepWithin_67 : decode cX0_keepWithin 67 = .ok (.iload_n 2, 1) := by decide +kernel
theorem dX0_keepWithin_68 : decode cX0_keepWithin 68 = .ok (.iastore, 1) := by decide +kernel
theorem dX0_keepWithin_69 : decode cX0_keepWithin 69 = .ok (.aload_n 0, 1) := by decide +kernel
theorem dX0_keepWithin_70 : decode cX0_keepWithin 70 = .ok (.getfield 27, 3) := by decide +kernel
theorem dX0_keepWithin_73 : decode cX0_keepWithin 73 = .ok (.aload_n 0, 1) := by decide +kernel
theorem dX0_keepWithin_74 : decode cX0_keepWithin 74 = .ok (.getfield 33, 3) := by decide +kernel
theorem dX0_keepWithin_77 : decode cX0_keepWithin 77 = .ok (.aload_n 0, 1) := by decide +kernel
theorem dX0_keepWithin_78 : decode cX0_keepWithin 78 = .ok (.getfield 37, 3) := by decide +kernel
theorem dX0_keepWithin_81 : decode cX0_keepWithin 81 = .ok (.iload 4, 2) := by decide +kernel
theorem dX0_keepWithin_83 : decode cX0_keepWithin 83 = .ok (.iaload, 1) := by decide +kernel
theorem dX0_keepWithin_84 : decode cX0_keepWithin 84 = .ok (.iastore, 1) := by decide +kernel
theorem dX0_keepWithin_85 : decode cX0_keepWithin 85 = .ok (.aload_n 0, 1) := by decide +kernel
theorem dX0_keepWithin_86 : decode cX0_keepWithin 86 = .ok (.getfield 30, 3) := by decide +kernel
theorem dX0_keepWithin_89 : decode cX0_keepWithin 89 = .ok (.aload_n 0, 1) := by decide +kernel
theorem dX0_keepWithin_90 : decode cX0_keepWithin 90 = .ok (.getfield 33, 3) := by decide +kernel
theorem dX0_keepWithin_93 : decode cX0_keepWithin 93 = .ok (.aload_n 0, 1) := by decide +kernel
theorem dX0_keepWithin_94 : decode cX0_keepWithin 94 = .ok (.getfield 40, 3) := by decide +kernel
theorem dX0_keepWithin_97 : decode cX0_keepWithin 97 = .ok (.iload 4, 2) := by decide +kernel
theorem dX0_keepWithin_99 : decode cX0_keepWithin 99 = .ok (.iaload, 1) := by decide +kernel
theorem dX0_keepWithin_100 : decode cX0_keepWithin 100 = .ok (.iastore, 1) := by decide +kernel
theorem dX0_keepWithin_101 : decode cX0_keepWithin 101 = .ok (.aload_n 0, 1) := by decide +kernel
theorem dX0_keepWithin_102 : decode cX0_keepWithin 102 = .ok (.dup, 1) := by decide +kernel
theorem dX0_keepWithin_103 : decode cX0_keepWithin 103 = .ok (.getfield 33, 3) := by decide +kernel
theorem dX0_keepWithin_106 : decode cX0_keepWithin 106 = .ok (.iconst 1, 1) := by decide +kernel
theorem dX0_keepWithin_107 : decode cX0_keepWithin 107 = .ok (.iadd, 1) := by decide +kernel
theorem dX0_keepWithin_108 : decode cX0_keepWithin 108 = .ok (.putfield 33, 3) := by decide +kernel
theorem dX0_keepWithin_111 : decode cX0_keepWithin 111 = .ok (.return_, 1) := by decide +kernel
theorem dX1_init_0 : decode cX1_init 0 = .ok (.aload_n 0, 1) := by decide +kernel
theorem dX1_init_1 : decode cX1_init 1 = .ok (.invokespecial 3, 3) := by decide +kernel
theorem dX1_init_4 : decode cX1_init 4 = .ok (.aload_n 0, 1) := by decide +kernel
theorem dX1_init_5 : decode cX1_init 5 = .ok (.sipush 301, 3) := by decide +kernel
theorem dX1_init_8 : decode cX1_init 8 = .ok (.newarray .int, 2) := by decide +kernel
theorem dX1_init_10 : decode cX1_init 10 = .ok (.putfield 9, 3) := by decide +kernel
theorem dX1_init_13 : decode cX1_init 13 = .ok (.aload_n 0, 1) := by decide +kernel
theorem dX1_init_14 : decode cX1_init 14 = .ok (.sipush 301, 3) := by decide +kernel
theorem dX1_init_17 : decode cX1_init 17 = .ok (.newarray .int, 2) := by decide +kernel
theorem dX1_init_19 : decode cX1_init 19 = .ok (.putfield 15, 3) := by decide +kernel
theorem dX1_init_22 : decode cX1_init 22 = .ok (.aload_n 0, 1) := by decide +kernel
theorem dX1_init_23 : decode cX1_init 23 = .ok (.iconst 0, 1) := by decide +kernel
theorem dX1_init_24 : decode cX1_init 24 = .ok (.putfield 18, 3) := by decide +kernel
theorem dX1_init_27 : decode cX1_init 27 = .ok (.aload_n 0, 1) := by decide +kernel
theorem dX1_init_28 : decode cX1_init 28 = .ok (.iconst 0, 1) := by decide +kernel
theorem dX1_init_29 : decode cX1_init 29 = .ok (.putfield 22, 3) := by decide +kernel
theorem dX1_init_32 : decode cX1_init 32 = .ok (.aload_n 0, 1) := by decide +kernel
theorem dX1_init_33 : decode cX1_init 33 = .ok (.iconst 0, 1) := by decide +kernel
theorem dX1_init_34 : decode cX1_init 34 = .ok (.putfield 25, 3) := by decide +kernel
theorem dX1_init_37 : decode cX1_init 37 = .ok (.return_, 1) := by decide +kernel
theorem dX1_best_0 : decode cX1_best 0 = .ok (.aload_n 0, 1) := by decide +kernel
theorem dX1_best_1 : decode cX1_best 1 = .ok (.getfield 18, 3) := by decide +kernel
theorem dX1_best_4 : decode cX1_best 4 = .ok (.ireturn, 1) := by decide +kernel
theorem dX1_bestEndInPattern_0 : decode cX1_bestEndInPattern 0 = .ok (.aload_n 0, 1) := by decide +kernel
theorem dX1_bestEndInPattern_1 : decode cX1_bestEndInPattern 1 = .ok (.getfield 22, 3) := by decide +kernel
theorem dX1_bestEndInPattern_4 : decode cX1_bestEndInPattern 4 = .ok (.ireturn, 1) := by decide +kernel
theorem dX1_bestEndInText_0 : decode cX1_bestEndInText 0 = .ok (.aload_n 0, 1) := by decide +kernel
theorem dX1_bestEndInText_1 : decode cX1_bestEndInText 1 = .ok (.getfield 25, 3) := by decide +kernel
theorem dX1_bestEndInText_4 : decode cX1_bestEndInText 4 = .ok (.ireturn, 1) := by decide +kernel
set_option maxRecDepth 20000 in
theorem ggX1_ofWholeRows_X4_size : GoodIn wsX1_ofWholeRows wsX4_size := goodIn_r _ [8, 9, 49, 50] (by decide +kernel) (by decide +kernel)
set_option maxRecDepth 20000 in
theorem gX1_ofWholeRows_X4_size : GoodIn wsX1_ofWholeRows (wsV RX1 28 RX4 yX4_size wsX4_size) := goodIn_app (goodIn_of _ (by decide +kernel)) ggX1_ofWholeRows_X4_size
set_option maxRecDepth 20000 in
theorem ggX1_ofWholeRows_X2_costOfGap : GoodIn wsX1_ofWholeRows wsX2_costOfGap := goodIn_r _ [14, 15, 16, 51, 52, 53] (by decide +kernel) (by decide +kernel)
set_option maxRecDepth 20000 in
theorem gX1_ofWholeRows_X2_costOfGap : GoodIn wsX1_ofWholeRows (wsV RX1 34 RX2 yX2_costOfGap wsX2_costOfGap) := goodIn_app (goodIn_of _ (by decide +kernel)) ggX1_ofWholeRows_X2_costOfGap
set_option maxRecDepth 20000 in
theorem ggX1_ofWholeRows_X4_signBehind : GoodIn wsX1_ofWholeRows wsX4_signBehind := goodIn_r _ [20, 21, 49, 50] (by decide +kernel) (by decide +kernel)
set_option maxRecDepth 20000 in
theorem gX1_ofWholeRows_X4_signBehind : GoodIn wsX1_ofWholeRows (wsV RX1 41 RX4 yX4_signBehind wsX4_signBehind) := goodIn_app (goodIn_of _ (by decide +kernel)) ggX1_ofWholeRows_X4_signBehind
set_option maxRecDepth 20000 in
theorem ggX1_ofWholeRows_X1_takeSign : GoodIn wsX1_ofWholeRows wsX1_takeSign := goodIn_r _ [26, 1, 3, 2, 27, 28, 29, 30, 31, 32, 33, 13, 34, 15, 35, 36, 37, 38, 16, 4, 5, 6, 7, 8, 9, 17, 18, 19, 20, 21, 39, 40, 41, 42, 43, 44, 45, 46, 47, 48, 51, 52, 53, 49, 50] (by decide +kernel) (by decide +kernel)
set_option maxRecDepth 20000 in
theorem gX1_ofWholeRows_X1_takeSign : GoodIn wsX1_ofWholeRows (wsV RX1 44 RX1 yX1_takeSign wsX1_takeSign) := goodIn_app (goodIn_of _ (by decide +kernel)) ggX1_ofWholeRows_X1_takeSign
theorem dX1_ofWholeRows_0 : decode cX1_ofWholeRows 0 = .ok (.iconst 0, 1) := by decide +kernel
theorem dX1_ofWholeRows_1 : decode cX1_ofWholeRows 1 = .ok (.istore 4, 2) := by decide +kernel
theorem dX1_ofWholeRows_3 : decode cX1_ofWholeRows 3 = .ok (.iload 4, 2) := by decide +kernel
theorem dX1_ofWholeRows_5 : decode cX1_ofWholeRows 5 = .ok (.aload_n 2, 1) := by decide +kernel
theorem dX1_ofWholeRows_6 : decode cX1_ofWholeRows 6 = .ok (.invokevirtual 28, 3) := by decide +kernel
theorem dX1_ofWholeRows_9 : decode cX1_ofWholeRows 9 = .ok (.if_icmp .gt 32, 3) := by decide +kernel
theorem dX1_ofWholeRows_12 : decode cX1_ofWholeRows 12 = .ok (.aload_n 0, 1) := by decide +kernel
theorem dX1_ofWholeRows_13 : decode cX1_ofWholeRows 13 = .ok (.getfield 9, 3) := by decide +kernel
theorem dX1_ofWholeRows_16 : decode cX1_ofWholeRows 16 = .ok (.iload 4, 2) := by decide +kernel
theorem dX1_ofWholeRows_18 : decode cX1_ofWholeRows 18 = .ok (.aload_n 3, 1) := by decide +kernel
theorem dX1_ofWholeRows_19 : decode cX1_ofWholeRows 19 = .ok (.iload 4, 2) := by decide +kernel
theorem dX1_ofWholeRows_21 : decode cX1_ofWholeRows 21 = .ok (.invokevirtual 34, 3) := by decide +kernel
theorem dX1_ofWholeRows_24 : decode cX1_ofWholeRows 24 = .ok (.ineg, 1) := by decide +kernel
theorem dX1_ofWholeRows_25 : decode cX1_ofWholeRows 25 = .ok (.iastore, 1) := by decide +kernel
theorem dX1_ofWholeRows_26 : decode cX1_ofWholeRows 26 = .ok (.aload_n 0, 1) := by decide +kernel
theorem dX1_ofWholeRows_27 : decode cX1_ofWholeRows 27 = .ok (.getfield 15, 3) := by decide +kernel
theorem dX1_ofWholeRows_30 : decode cX1_ofWholeRows 30 = .ok (.iload 4, 2) := by decide +kernel
theorem dX1_ofWholeRows_32 : decode cX1_ofWholeRows 32 = .ok (.ldc 40, 2) := by decide +kernel
theorem dX1_ofWholeRows_34 : decode cX1_ofWholeRows 34 = .ok (.iastore, 1) := by decide +kernel
theorem dX1_ofWholeRows_35 : decode cX1_ofWholeRows 35 = .ok (.iinc 4 1, 3) := by decide +kernel
theorem dX1_ofWholeRows_38 : decode cX1_ofWholeRows 38 = .ok (.goto (-35), 3) := by decide +kernel
theorem dX1_ofWholeRows_41 : decode cX1_ofWholeRows 41 = .ok (.iconst 1, 1) := by decide +kernel
theorem dX1_ofWholeRows_42 : decode cX1_ofWholeRows 42 = .ok (.istore 4, 2) := by decide +kernel
theorem dX1_ofWholeRows_44 : decode cX1_ofWholeRows 44 = .ok (.iload 4, 2) := by decide +kernel
theorem dX1_ofWholeRows_46 : decode cX1_ofWholeRows 46 = .ok (.aload_n 1, 1) := by decide +kernel
theorem dX1_ofWholeRows_47 : decode cX1_ofWholeRows 47 = .ok (.invokevirtual 28, 3) := by decide +kernel
theorem dX1_ofWholeRows_50 : decode cX1_ofWholeRows 50 = .ok (.if_icmp .gt 36, 3) := by decide +kernel
theorem dX1_ofWholeRows_53 : decode cX1_ofWholeRows 53 = .ok (.aload_n 3, 1) := by decide +kernel
theorem dX1_ofWholeRows_54 : decode cX1_ofWholeRows 54 = .ok (.iload 4, 2) := by decide +kernel
theorem dX1_ofWholeRows_56 : decode cX1_ofWholeRows 56 = .ok (.invokevirtual 34, 3) := by decide +kernel
theorem dX1_ofWholeRows_59 : decode cX1_ofWholeRows 59 = .ok (.ineg, 1) := by decide +kernel
theorem dX1_ofWholeRows_60 : decode cX1_ofWholeRows 60 = .ok (.istore 5, 2) := by decide +kernel
theorem dX1_ofWholeRows_62 : decode cX1_ofWholeRows 62 = .ok (.aload_n 0, 1) := by decide +kernel
theorem dX1_ofWholeRows_63 : decode cX1_ofWholeRows 63 = .ok (.aload_n 1, 1) := by decide +kernel
theorem dX1_ofWholeRows_64 : decode cX1_ofWholeRows 64 = .ok (.iload 4, 2) := by decide +kernel
theorem dX1_ofWholeRows_66 : decode cX1_ofWholeRows 66 = .ok (.iconst 1, 1) := by decide +kernel
theorem dX1_ofWholeRows_67 : decode cX1_ofWholeRows 67 = .ok (.isub, 1) := by decide +kernel
theorem dX1_ofWholeRows_68 : decode cX1_ofWholeRows 68 = .ok (.invokevirtual 41, 3) := by decide +kernel
theorem dX1_ofWholeRows_71 : decode cX1_ofWholeRows 71 = .ok (.aload_n 2, 1) := by decide +kernel
theorem dX1_ofWholeRows_72 : decode cX1_ofWholeRows 72 = .ok (.aload_n 3, 1) := by decide +kernel
theorem dX1_ofWholeRows_73 : decode cX1_ofWholeRows 73 = .ok (.iload 5, 2) := by decide +kernel
theorem dX1_ofWholeRows_75 : decode cX1_ofWholeRows 75 = .ok (.ldc 40, 2) := by decide +kernel
theorem dX1_ofWholeRows_77 : decode cX1_ofWholeRows 77 = .ok (.invokevirtual 44, 3) := by decide +kernel
theorem dX1_ofWholeRows_80 : decode cX1_ofWholeRows 80 = .ok (.iinc 4 1, 3) := by decide +kernel
theorem dX1_ofWholeRows_83 : decode cX1_ofWholeRows 83 = .ok (.goto (-39), 3) := by decide +kernel
theorem dX1_ofWholeRows_86 : decode cX1_ofWholeRows 86 = .ok (.aload_n 0, 1) := by decide +kernel
theorem dX1_ofWholeRows_87 : decode cX1_ofWholeRows 87 = .ok (.getfield 9, 3) := by decide +kernel
theorem dX1_ofWholeRows_90 : decode cX1_ofWholeRows 90 = .ok (.aload_n 2, 1) := by decide +kernel
theorem dX1_ofWholeRows_91 : decode cX1_ofWholeRows 91 = .ok (.invokevirtual 28, 3) := by decide +kernel
theorem dX1_ofWholeRows_94 : decode cX1_ofWholeRows 94 = .ok (.iaload, 1) := by decide +kernel
theorem dX1_ofWholeRows_95 : decode cX1_ofWholeRows 95 = .ok (.ireturn, 1) := by decide +kernel
set_option maxRecDepth 20000 in
theorem ggX1_lookForBestParts_X4_size : GoodIn wsX1_lookForBestParts wsX4_size := goodIn_r _ [11, 12, 52, 53] (by decide +kernel) (by decide +kernel)
set_option maxRecDepth 20000 in
theorem gX1_lookForBestParts_X4_size : GoodIn wsX1_lookForBestParts (wsV RX1 28 RX4 yX4_size wsX4_size) := goodIn_app (goodIn_of _ (by decide +kernel)) ggX1_lookForBestParts_X4_size
set_option maxRecDepth 20000 in
theorem ggX1_lookForBestParts_X4_signBehind : GoodIn wsX1_lookForBestParts wsX4_signBehind := goodIn_r _ [16, 17, 52, 53] (by decide +kernel) (by decide +kernel)
set_option maxRecDepth 20000 in
theorem gX1_lookForBestParts_X4_signBehind : GoodIn wsX1_lookForBestParts (wsV RX1 41 RX4 yX4_signBehind wsX4_signBehind) := goodIn_app (goodIn_of _ (by decide +kernel)) ggX1_lookForBestParts_X4_signBehind
set_option maxRecDepth 20000 in
theorem ggX1_lookForBestParts_X1_takeSign : GoodIn wsX1_lookForBestParts wsX1_takeSign := goodIn_r _ [22, 4, 6, 5, 23, 24, 25, 26, 27, 28, 29, 30, 31, 32, 33, 34, 35, 36, 37, 7, 8, 9, 10, 11, 12, 13, 14, 15, 16, 17, 38, 39, 40, 41, 42, 47, 48, 49, 50, 51, 54, 55, 56, 52, 53] (by decide +kernel) (by decide +kernel)
set_option maxRecDepth 20000 in
theorem gX1_lookForBestParts_X1_takeSign : GoodIn wsX1_lookForBestParts (wsV RX1 44 RX1 yX1_takeSign wsX1_takeSign) := goodIn_app (goodIn_of _ (by decide +kernel)) ggX1_lookForBestParts_X1_takeSign
set_option maxRecDepth 20000 in
theorem ggX1_lookForBestParts_X1_keepBestOf : GoodIn wsX1_lookForBestParts wsX1_keepBestOf := goodIn_r _ [46, 4, 1, 2, 3, 47, 48, 49, 50, 51] (by decide +kernel) (by decide +kernel)
set_option maxRecDepth 20000 in
theorem gX1_lookForBestParts_X1_keepBestOf : GoodIn wsX1_lookForBestParts (wsV RX1 48 RX1 yX1_keepBestOf wsX1_keepBestOf) := goodIn_app (goodIn_of _ (by decide +kernel)) ggX1_lookForBestParts_X1_keepBestOf
theorem dX1_lookForBestParts_0 : decode cX1_lookForBestParts 0 = .ok (.aload_n 0, 1) := by decide +kernel
theorem dX1_lookForBestParts_1 : decode cX1_lookForBestParts 1 = .ok (.iconst 0, 1) := by decide +kernel
theorem dX1_lookForBestParts_2 : decode cX1_lookForBestParts 2 = .ok (.putfield 18, 3) := by decide +kernel
theorem dX1_lookForBestParts_5 : decode cX1_lookForBestParts 5 = .ok (.aload_n 0, 1) := by decide +kernel
theorem dX1_lookForBestParts_6 : decode cX1_lookForBestParts 6 = .ok (.iconst 0, 1) := by decide +kernel
theorem dX1_lookForBestParts_7 : decode cX1_lookForBestParts 7 = .ok (.putfield 22, 3) := by decide +kernel
theorem dX1_lookForBestParts_10 : decode cX1_lookForBestParts 10 = .ok (.aload_n 0, 1) := by decide +kernel
theorem dX1_lookForBestParts_11 : decode cX1_lookForBestParts 11 = .ok (.iconst 0, 1) := by decide +kernel
theorem dX1_lookForBestParts_12 : decode cX1_lookForBestParts 12 = .ok (.putfield 25, 3) := by decide +kernel
theorem dX1_lookForBestParts_15 : decode cX1_lookForBestParts 15 = .ok (.iconst 0, 1) := by decide +kernel
theorem dX1_lookForBestParts_16 : decode cX1_lookForBestParts 16 = .ok (.istore 4, 2) := by decide +kernel
theorem dX1_lookForBestParts_18 : decode cX1_lookForBestParts 18 = .ok (.iload 4, 2) := by decide +kernel
theorem dX1_lookForBestParts_20 : decode cX1_lookForBestParts 20 = .ok (.aload_n 2, 1) := by decide +kernel
theorem dX1_lookForBestParts_21 : decode cX1_lookForBestParts 21 = .ok (.invokevirtual 28, 3) := by decide +kernel
theorem dX1_lookForBestParts_24 : decode cX1_lookForBestParts 24 = .ok (.if_icmp .gt 26, 3) := by decide +kernel
theorem dX1_lookForBestParts_27 : decode cX1_lookForBestParts 27 = .ok (.aload_n 0, 1) := by decide +kernel
theorem dX1_lookForBestParts_28 : decode cX1_lookForBestParts 28 = .ok (.getfield 9, 3) := by decide +kernel
theorem dX1_lookForBestParts_31 : decode cX1_lookForBestParts 31 = .ok (.iload 4, 2) := by decide +kernel
theorem dX1_lookForBestParts_33 : decode cX1_lookForBestParts 33 = .ok (.iconst 0, 1) := by decide +kernel
theorem dX1_lookForBestParts_34 : decode cX1_lookForBestParts 34 = .ok (.iastore, 1) := by decide +kernel
theorem dX1_lookForBestParts_35 : decode cX1_lookForBestParts 35 = .ok (.aload_n 0, 1) := by decide +kernel
theorem dX1_lookForBestParts_36 : decode cX1_lookForBestParts 36 = .ok (.getfield 15, 3) := by decide +kernel
theorem dX1_lookForBestParts_39 : decode cX1_lookForBestParts 39 = .ok (.iload 4, 2) := by decide +kernel
theorem dX1_lookForBestParts_41 : decode cX1_lookForBestParts 41 = .ok (.ldc 40, 2) := by decide +kernel
theorem dX1_lookForBestParts_43 : decode cX1_lookForBestParts 43 = .ok (.iastore, 1) := by decide +kernel
theorem dX1_lookForBestParts_44 : decode cX1_lookForBestParts 44 = .ok (.iinc 4 1, 3) := by decide +kernel
theorem dX1_lookForBestParts_47 : decode cX1_lookForBestParts 47 = .ok (.goto (-29), 3) := by decide +kernel
theorem dX1_lookForBestParts_50 : decode cX1_lookForBestParts 50 = .ok (.iconst 1, 1) := by decide +kernel
theorem dX1_lookForBestParts_51 : decode cX1_lookForBestParts 51 = .ok (.istore 4, 2) := by decide +kernel
theorem dX1_lookForBestParts_53 : decode cX1_lookForBestParts 53 = .ok (.iload 4, 2) := by decide +kernel
theorem dX1_lookForBestParts_55 : decode cX1_lookForBestParts 55 = .ok (.aload_n 1, 1) := by decide +kernel
theorem dX1_lookForBestParts_56 : decode cX1_lookForBestParts 56 = .ok (.invokevirtual 28, 3) := by decide +kernel
theorem dX1_lookForBestParts_59 : decode cX1_lookForBestParts 59 = .ok (.if_icmp .gt 35, 3) := by decide +kernel
theorem dX1_lookForBestParts_62 : decode cX1_lookForBestParts 62 = .ok (.aload_n 0, 1) := by decide +kernel
theorem dX1_lookForBestParts_63 : decode cX1_lookForBestParts 63 = .ok (.aload_n 1, 1) := by decide +kernel
theorem dX1_lookForBestParts_64 : decode cX1_lookForBestParts 64 = .ok (.iload 4, 2) := by decide +kernel
theorem dX1_lookForBestParts_66 : decode cX1_lookForBestParts 66 = .ok (.iconst 1, 1) := by decide +kernel
theorem dX1_lookForBestParts_67 : decode cX1_lookForBestParts 67 = .ok (.isub, 1) := by decide +kernel
theorem dX1_lookForBestParts_68 : decode cX1_lookForBestParts 68 = .ok (.invokevirtual 41, 3) := by decide +kernel
theorem dX1_lookForBestParts_71 : decode cX1_lookForBestParts 71 = .ok (.aload_n 2, 1) := by decide +kernel
theorem dX1_lookForBestParts_72 : decode cX1_lookForBestParts 72 = .ok (.aload_n 3, 1) := by decide +kernel
theorem dX1_lookForBestParts_73 : decode cX1_lookForBestParts 73 = .ok (.iconst 0, 1) := by decide +kernel
theorem dX1_lookForBestParts_74 : decode cX1_lookForBestParts 74 = .ok (.iconst 0, 1) := by decide +kernel
theorem dX1_lookForBestParts_75 : decode cX1_lookForBestParts 75 = .ok (.invokevirtual 44, 3) := by decide +kernel
theorem dX1_lookForBestParts_78 : decode cX1_lookForBestParts 78 = .ok (.aload_n 0, 1) := by decide +kernel
theorem dX1_lookForBestParts_79 : decode cX1_lookForBestParts 79 = .ok (.iload 4, 2) := by decide +kernel
theorem dX1_lookForBestParts_81 : decode cX1_lookForBestParts 81 = .ok (.aload_n 2, 1) := by decide +kernel
theorem dX1_lookForBestParts_82 : decode cX1_lookForBestParts 82 = .ok (.invokevirtual 28, 3) := by decide +kernel
theorem dX1_lookForBestParts_85 : decode cX1_lookForBestParts 85 = .ok (.invokevirtual 48, 3) := by decide +kernel
theorem dX1_lookForBestParts_88 : decode cX1_lookForBestParts 88 = .ok (.iinc 4 1, 3) := by decide +kernel
theorem dX1_lookForBestParts_91 : decode cX1_lookForBestParts 91 = .ok (.goto (-38), 3) := by decide +kernel
theorem dX1_lookForBestParts_94 : decode cX1_lookForBestParts 94 = .ok (.return_, 1) := by decide +kernel
set_option maxRecDepth 20000 in
theorem ggX1_takeSign_X2_openingCost : GoodIn wsX1_takeSign wsX2_openingCost := goodIn_r _ [12, 13, 40, 41, 42] (by decide +kernel) (by decide +kernel)
set_option maxRecDepth 20000 in
theorem gX1_takeSign_X2_openingCost : GoodIn wsX1_takeSign (wsV RX1 52 RX2 yX2_openingCost wsX2_openingCost) := goodIn_app (goodIn_of _ (by decide +kernel)) ggX1_takeSign_X2_openingCost
set_option maxRecDepth 20000 in
theorem ggX1_takeSign_X2_extensionCost : GoodIn wsX1_takeSign wsX2_extensionCost := goodIn_r _ [17, 18, 40, 41, 42] (by decide +kernel) (by decide +kernel)
set_option maxRecDepth 20000 in
theorem gX1_takeSign_X2_extensionCost : GoodIn wsX1_takeSign (wsV RX1 55 RX2 yX2_extensionCost wsX2_extensionCost) := goodIn_app (goodIn_of _ (by decide +kernel)) ggX1_takeSign_X2_extensionCost
set_option maxRecDepth 20000 in
theorem ggX1_takeSign_X4_size : GoodIn wsX1_takeSign wsX4_size := goodIn_r _ [23, 24, 43, 44] (by decide +kernel) (by decide +kernel)
set_option maxRecDepth 20000 in
theorem gX1_takeSign_X4_size : GoodIn wsX1_takeSign (wsV RX1 28 RX4 yX4_size wsX4_size) := goodIn_app (goodIn_of _ (by decide +kernel)) ggX1_takeSign_X4_size
set_option maxRecDepth 20000 in
theorem ggX1_takeSign_X4_signBehind : GoodIn wsX1_takeSign wsX4_signBehind := goodIn_r _ [28, 29, 43, 44] (by decide +kernel) (by decide +kernel)
set_option maxRecDepth 20000 in
theorem gX1_takeSign_X4_signBehind : GoodIn wsX1_takeSign (wsV RX1 41 RX4 yX4_signBehind wsX4_signBehind) := goodIn_app (goodIn_of _ (by decide +kernel)) ggX1_takeSign_X4_signBehind
set_option maxRecDepth 20000 in
theorem ggX1_takeSign_X2_ofSigns : GoodIn wsX1_takeSign wsX2_ofSigns := goodIn_r _ [33, 34, 40, 41, 42] (by decide +kernel) (by decide +kernel)
set_option maxRecDepth 20000 in
theorem gX1_takeSign_X2_ofSigns : GoodIn wsX1_takeSign (wsV RX1 64 RX2 yX2_ofSigns wsX2_ofSigns) := goodIn_app (goodIn_of _ (by decide +kernel)) ggX1_takeSign_X2_ofSigns
theorem dX1_takeSign_0 : decode cX1_takeSign 0 = .ok (.aload_n 3, 1) := by decide +kernel
theorem dX1_takeSign_1 : decode cX1_takeSign 1 = .ok (.invokevirtual 52, 3) := by decide +kernel
theorem dX1_takeSign_4 : decode cX1_takeSign 4 = .ok (.istore 6, 2) := by decide +kernel
theorem dX1_takeSign_6 : decode cX1_takeSign 6 = .ok (.aload_n 3, 1) := by decide +kernel
theorem dX1_takeSign_7 : decode cX1_takeSign 7 = .ok (.invokevirtual 55, 3) := by decide +kernel
theorem dX1_takeSign_10 : decode cX1_takeSign 10 = .ok (.istore 7, 2) := by decide +kernel
theorem dX1_takeSign_12 : decode cX1_takeSign 12 = .ok (.aload_n 0, 1) := by decide +kernel
theorem dX1_takeSign_13 : decode cX1_takeSign 13 = .ok (.getfield 9, 3) := by decide +kernel
theorem dX1_takeSign_16 : decode cX1_takeSign 16 = .ok (.iconst 0, 1) := by decide +kernel
theorem dX1_takeSign_17 : decode cX1_takeSign 17 = .ok (.iaload, 1) := by decide +kernel
theorem dX1_takeSign_18 : decode cX1_takeSign 18 = .ok (.istore 8, 2) := by decide +kernel
theorem dX1_takeSign_20 : decode cX1_takeSign 20 = .ok (.ldc 40, 2) := by decide +kernel
theorem dX1_takeSign_22 : decode cX1_takeSign 22 = .ok (.istore 9, 2) := by decide +kernel
theorem dX1_takeSign_24 : decode cX1_takeSign 24 = .ok (.aload_n 0, 1) := by decide +kernel
theorem dX1_takeSign_25 : decode cX1_takeSign 25 = .ok (.getfield 9, 3) := by decide +kernel
theorem dX1_takeSign_28 : decode cX1_takeSign 28 = .ok (.iconst 0, 1) := by decide +kernel
theorem dX1_takeSign_29 : decode cX1_takeSign 29 = .ok (.iload 4, 2) := by decide +kernel
theorem dX1_takeSign_31 : decode cX1_takeSign 31 = .ok (.iastore, 1) := by decide +kernel
theorem dX1_takeSign_32 : decode cX1_takeSign 32 = .ok (.iconst 1, 1) := by decide +kernel
theorem dX1_takeSign_33 : decode cX1_takeSign 33 = .ok (.istore 10, 2) := by decide +kernel
theorem dX1_takeSign_35 : decode cX1_takeSign 35 = .ok (.iload 10, 2) := by decide +kernel
theorem dX1_takeSign_37 : decode cX1_takeSign 37 = .ok (.aload_n 2, 1) := by decide +kernel
theorem dX1_takeSign_38 : decode cX1_takeSign 38 = .ok (.invokevirtual 28, 3) := by decide +kernel
theorem dX1_takeSign_41 : decode cX1_takeSign 41 = .ok (.if_icmp .gt 120, 3) := by decide +kernel
theorem dX1_takeSign_44 : decode cX1_takeSign 44 = .ok (.aload_n 0, 1) := by decide +kernel
theorem dX1_takeSign_45 : decode cX1_takeSign 45 = .ok (.getfield 9, 3) := by decide +kernel
theorem dX1_takeSign_48 : decode cX1_takeSign 48 = .ok (.iload 10, 2) := by decide +kernel
theorem dX1_takeSign_50 : decode cX1_takeSign 50 = .ok (.iaload, 1) := by decide +kernel
theorem dX1_takeSign_51 : decode cX1_takeSign 51 = .ok (.istore 11, 2) := by decide +kernel
theorem dX1_takeSign_53 : decode cX1_takeSign 53 = .ok (.aload_n 0, 1) := by decide +kernel
theorem dX1_takeSign_54 : decode cX1_takeSign 54 = .ok (.getfield 15, 3) := by decide +kernel
theorem dX1_takeSign_57 : decode cX1_takeSign 57 = .ok (.iload 10, 2) := by decide +kernel
theorem dX1_takeSign_59 : decode cX1_takeSign 59 = .ok (.aload_n 0, 1) := by decide +kernel
theorem dX1_takeSign_60 : decode cX1_takeSign 60 = .ok (.getfield 15, 3) := by decide +kernel
theorem dX1_takeSign_63 : decode cX1_takeSign 63 = .ok (.iload 10, 2) := by decide +kernel
theorem dX1_takeSign_65 : decode cX1_takeSign 65 = .ok (.iaload, 1) := by decide +kernel
theorem dX1_takeSign_66 : decode cX1_takeSign 66 = .ok (.iload 11, 2) := by decide +kernel
theorem dX1_takeSign_68 : decode cX1_takeSign 68 = .ok (.iload 6, 2) := by decide +kernel
theorem dX1_takeSign_70 : decode cX1_takeSign 70 = .ok (.isub, 1) := by decide +kernel
theorem dX1_takeSign_71 : decode cX1_takeSign 71 = .ok (.invokestatic 58, 3) := by decide +kernel
theorem dX1_takeSign_74 : decode cX1_takeSign 74 = .ok (.iload 7, 2) := by decide +kernel
theorem dX1_takeSign_76 : decode cX1_takeSign 76 = .ok (.isub, 1) := by decide +kernel
theorem dX1_takeSign_77 : decode cX1_takeSign 77 = .ok (.iastore, 1) := by decide +kernel
theorem dX1_takeSign_78 : decode cX1_takeSign 78 = .ok (.iload 9, 2) := by decide +kernel
theorem dX1_takeSign_80 : decode cX1_takeSign 80 = .ok (.aload_n 0, 1) := by decide +kernel
theorem dX1_takeSign_81 : decode cX1_takeSign 81 = .ok (.getfield 9, 3) := by decide +kernel
theorem dX1_takeSign_84 : decode cX1_takeSign 84 = .ok (.iload 10, 2) := by decide +kernel
theorem dX1_takeSign_86 : decode cX1_takeSign 86 = .ok (.iconst 1, 1) := by decide +kernel
theorem dX1_takeSign_87 : decode cX1_takeSign 87 = .ok (.isub, 1) := by decide +kernel
theorem dX1_takeSign_88 : decode cX1_takeSign 88 = .ok (.iaload, 1) := by decide +kernel
theorem dX1_takeSign_89 : decode cX1_takeSign 89 = .ok (.iload 6, 2) := by decide +kernel
theorem dX1_takeSign_91 : decode cX1_takeSign 91 = .ok (.isub, 1) := by decide +kernel
theorem dX1_takeSign_92 : decode cX1_takeSign 92 = .ok (.invokestatic 58, 3) := by decide +kernel
theorem dX1_takeSign_95 : decode cX1_takeSign 95 = .ok (.iload 7, 2) := by decide +kernel
theorem dX1_takeSign_97 : decode cX1_takeSign 97 = .ok (.isub, 1) := by decide +kernel
theorem dX1_takeSign_98 : decode cX1_takeSign 98 = .ok (.istore 9, 2) := by decide +kernel
theorem dX1_takeSign_100 : decode cX1_takeSign 100 = .ok (.iload 8, 2) := by decide +kernel
theorem dX1_takeSign_102 : decode cX1_takeSign 102 = .ok (.aload_n 3, 1) := by decide +kernel
theorem dX1_takeSign_103 : decode cX1_takeSign 103 = .ok (.iload_n 1, 1) := by decide +kernel
theorem dX1_takeSign_104 : decode cX1_takeSign 104 = .ok (.aload_n 2, 1) := by decide +kernel
theorem dX1_takeSign_105 : decode cX1_takeSign 105 = .ok (.iload 10, 2) := by decide +kernel
theorem dX1_takeSign_107 : decode cX1_takeSign 107 = .ok (.iconst 1, 1) := by decide +kernel
theorem dX1_takeSign_108 : decode cX1_takeSign 108 = .ok (.isub, 1) := by decide +kernel
theorem dX1_takeSign_109 : decode cX1_takeSign 109 = .ok (.invokevirtual 41, 3) := by decide +kernel
theorem dX1_takeSign_112 : decode cX1_takeSign 112 = .ok (.invokevirtual 64, 3) := by decide +kernel
theorem dX1_takeSign_115 : decode cX1_takeSign 115 = .ok (.iadd, 1) := by decide +kernel
theorem dX1_takeSign_116 : decode cX1_takeSign 116 = .ok (.istore 12, 2) := by decide +kernel
theorem dX1_takeSign_118 : decode cX1_takeSign 118 = .ok (.aload_n 0, 1) := by decide +kernel
theorem dX1_takeSign_119 : decode cX1_takeSign 119 = .ok (.getfield 15, 3) := by decide +kernel
theorem dX1_takeSign_122 : decode cX1_takeSign 122 = .ok (.iload 10, 2) := by decide +kernel
theorem dX1_takeSign_124 : decode cX1_takeSign 124 = .ok (.iaload, 1) := by decide +kernel
theorem dX1_takeSign_125 : decode cX1_takeSign 125 = .ok (.iload 9, 2) := by decide +kernel
theorem dX1_takeSign_127 : decode cX1_takeSign 127 = .ok (.invokestatic 58, 3) := by decide +kernel
theorem dX1_takeSign_130 : decode cX1_takeSign 130 = .ok (.istore 13, 2) := by decide +kernel
theorem dX1_takeSign_132 : decode cX1_takeSign 132 = .ok (.aload_n 0, 1) := by decide +kernel
theorem dX1_takeSign_133 : decode cX1_takeSign 133 = .ok (.getfield 9, 3) := by decide +kernel
theorem dX1_takeSign_136 : decode cX1_takeSign 136 = .ok (.iload 10, 2) := by decide +kernel
theorem dX1_takeSign_138 : decode cX1_takeSign 138 = .ok (.iload 12, 2) := by decide +kernel
theorem dX1_takeSign_140 : decode cX1_takeSign 140 = .ok (.iload 13, 2) := by decide +kernel
theorem dX1_takeSign_142 : decode cX1_takeSign 142 = .ok (.invokestatic 58, 3) := by decide +kernel
theorem dX1_takeSign_145 : decode cX1_takeSign 145 = .ok (.iload 5, 2) := by decide +kernel
theorem dX1_takeSign_147 : decode cX1_takeSign 147 = .ok (.invokestatic 58, 3) := by decide +kernel
theorem dX1_takeSign_150 : decode cX1_takeSign 150 = .ok (.iastore, 1) := by decide +kernel
theorem dX1_takeSign_151 : decode cX1_takeSign 151 = .ok (.iload 11, 2) := by decide +kernel
theorem dX1_takeSign_153 : decode cX1_takeSign 153 = .ok (.istore 8, 2) := by decide +kernel
theorem dX1_takeSign_155 : decode cX1_takeSign 155 = .ok (.iinc 10 1, 3) := by decide +kernel
theorem dX1_takeSign_158 : decode cX1_takeSign 158 = .ok (.goto (-123), 3) := by decide +kernel
theorem dX1_takeSign_161 : decode cX1_takeSign 161 = .ok (.return_, 1) := by decide +kernel
theorem dX1_keepBestOf_0 : decode cX1_keepBestOf 0 = .ok (.iconst 1, 1) := by decide +kernel
theorem dX1_keepBestOf_1 : decode cX1_keepBestOf 1 = .ok (.istore_n 3, 1) := by decide +kernel
theorem dX1_keepBestOf_2 : decode cX1_keepBestOf 2 = .ok (.iload_n 3, 1) := by decide +kernel
theorem dX1_keepBestOf_3 : decode cX1_keepBestOf 3 = .ok (.iload_n 2, 1) := by decide +kernel
theorem dX1_keepBestOf_4 : decode cX1_keepBestOf 4 = .ok (.if_icmp .gt 42, 3) := by decide +kernel
theorem dX1_keepBestOf_7 : decode cX1_keepBestOf 7 = .ok (.aload_n 0, 1) := by decide +kernel
theorem dX1_keepBestOf_8 : decode cX1_keepBestOf 8 = .ok (.getfield 9, 3) := by decide +kernel
theorem dX1_keepBestOf_11 : decode cX1_keepBestOf 11 = .ok (.iload_n 3, 1) := by decide +kernel
theorem dX1_keepBestOf_12 : decode cX1_keepBestOf 12 = .ok (.iaload, 1) := by decide +kernel
theorem dX1_keepBestOf_13 : decode cX1_keepBestOf 13 = .ok (.aload_n 0, 1) := by decide +kernel
theorem dX1_keepBestOf_14 : decode cX1_keepBestOf 14 = .ok (.getfield 18, 3) := by decide +kernel
theorem dX1_keepBestOf_17 : decode cX1_keepBestOf 17 = .ok (.if_icmp .le 23, 3) := by decide +kernel
theorem dX1_keepBestOf_20 : decode cX1_keepBestOf 20 = .ok (.aload_n 0, 1) := by decide +kernel
theorem dX1_keepBestOf_21 : decode cX1_keepBestOf 21 = .ok (.aload_n 0, 1) := by decide +kernel
theorem dX1_keepBestOf_22 : decode cX1_keepBestOf 22 = .ok (.getfield 9, 3) := by decide +kernel
theorem dX1_keepBestOf_25 : decode cX1_keepBestOf 25 = .ok (.iload_n 3, 1) := by decide +kernel
theorem dX1_keepBestOf_26 : decode cX1_keepBestOf 26 = .ok (.iaload, 1) := by decide +kernel
theorem dX1_keepBestOf_27 : decode cX1_keepBestOf 27 = .ok (.putfield 18, 3) := by decide +kernel
theorem dX1_keepBestOf_30 : decode cX1_keepBestOf 30 = .ok (.aload_n 0, 1) := by decide +kernel
theorem dX1_keepBestOf_31 : decode cX1_keepBestOf 31 = .ok (.iload_n 1, 1) := by decide +kernel
theorem dX1_keepBestOf_32 : decode cX1_keepBestOf 32 = .ok (.putfield 22, 3) := by decide +kernel
theorem dX1_keepBestOf_35 : decode cX1_keepBestOf 35 = .ok (.aload_n 0, 1) := by decide +kernel
theorem dX1_keepBestOf_36 : decode cX1_keepBestOf 36 = .ok (.iload_n 3, 1) := by decide +kernel
theorem dX1_keepBestOf_37 : decode cX1_keepBestOf 37 = .ok (.putfield 25, 3) := by decide +kernel
theorem dX1_keepBestOf_40 : decode cX1_keepBestOf 40 = .ok (.iinc 3 1, 3) := by decide +kernel
theorem dX1_keepBestOf_43 : decode cX1_keepBestOf 43 = .ok (.goto (-41), 3) := by decide +kernel
theorem dX1_keepBestOf_46 : decode cX1_keepBestOf 46 = .ok (.return_, 1) := by decide +kernel
theorem dX2_init_0 : decode cX2_init 0 = .ok (.aload_n 0, 1) := by decide +kernel
theorem dX2_init_1 : decode cX2_init 1 = .ok (.invokespecial 3, 3) := by decide +kernel
theorem dX2_init_4 : decode cX2_init 4 = .ok (.aload_n 0, 1) := by decide +kernel
theorem dX2_init_5 : decode cX2_init 5 = .ok (.bipush 8, 2) := by decide +kernel
theorem dX2_init_7 : decode cX2_init 7 = .ok (.bipush 8, 2) := by decide +kernel
theorem dX2_init_9 : decode cX2_init 9 = .ok (.multianewarray 9 2, 4) := by decide +kernel
theorem dX2_init_13 : decode cX2_init 13 = .ok (.putfield 11, 3) := by decide +kernel
theorem dX2_init_16 : decode cX2_init 16 = .ok (.iconst 0, 1) := by decide +kernel
theorem dX2_init_17 : decode cX2_init 17 = .ok (.istore_n 1, 1) := by decide +kernel
theorem dX2_init_18 : decode cX2_init 18 = .ok (.iload_n 1, 1) := by decide +kernel
theorem dX2_init_19 : decode cX2_init 19 = .ok (.bipush 8, 2) := by decide +kernel
theorem dX2_init_21 : decode cX2_init 21 = .ok (.if_icmp .ge 41, 3) := by decide +kernel
theorem dX2_init_24 : decode cX2_init 24 = .ok (.iconst 0, 1) := by decide +kernel
theorem dX2_init_25 : decode cX2_init 25 = .ok (.istore_n 2, 1) := by decide +kernel
theorem dX2_init_26 : decode cX2_init 26 = .ok (.iload_n 2, 1) := by decide +kernel
theorem dX2_init_27 : decode cX2_init 27 = .ok (.bipush 8, 2) := by decide +kernel
theorem dX2_init_29 : decode cX2_init 29 = .ok (.if_icmp .ge 27, 3) := by decide +kernel
theorem dX2_init_32 : decode cX2_init 32 = .ok (.aload_n 0, 1) := by decide +kernel
theorem dX2_init_33 : decode cX2_init 33 = .ok (.getfield 11, 3) := by decide +kernel
theorem dX2_init_36 : decode cX2_init 36 = .ok (.iload_n 1, 1) := by decide +kernel
theorem dX2_init_37 : decode cX2_init 37 = .ok (.aaload, 1) := by decide +kernel
theorem dX2_init_38 : decode cX2_init 38 = .ok (.iload_n 2, 1) := by decide +kernel
theorem dX2_init_39 : decode cX2_init 39 = .ok (.iload_n 1, 1) := by decide +kernel
theorem dX2_init_40 : decode cX2_init 40 = .ok (.iload_n 2, 1) := by decide +kernel
theorem dX2_init_41 : decode cX2_init 41 = .ok (.if_icmp .ne 7, 3) := by decide +kernel
theorem dX2_init_44 : decode cX2_init 44 = .ok (.iconst 1, 1) := by decide +kernel
theorem dX2_init_45 : decode cX2_init 45 = .ok (.goto 4, 3) := by decide +kernel
theorem dX2_init_48 : decode cX2_init 48 = .ok (.iconst (-1), 1) := by decide +kernel
theorem dX2_init_49 : decode cX2_init 49 = .ok (.iastore, 1) := by decide +kernel
theorem dX2_init_50 : decode cX2_init 50 = .ok (.iinc 2 1, 3) := by decide +kernel
theorem dX2_init_53 : decode cX2_init 53 = .ok (.goto (-27), 3) := by decide +kernel
theorem dX2_init_56 : decode cX2_init 56 = .ok (.iinc 1 1, 3) := by decide +kernel
theorem dX2_init_59 : decode cX2_init 59 = .ok (.goto (-41), 3) := by decide +kernel
theorem dX2_init_62 : decode cX2_init 62 = .ok (.aload_n 0, 1) := by decide +kernel
theorem dX2_init_63 : decode cX2_init 63 = .ok (.iconst 2, 1) := by decide +kernel
theorem dX2_init_64 : decode cX2_init 64 = .ok (.putfield 16, 3) := by decide +kernel
theorem dX2_init_67 : decode cX2_init 67 = .ok (.aload_n 0, 1) := by decide +kernel
theorem dX2_init_68 : decode cX2_init 68 = .ok (.iconst 1, 1) := by decide +kernel
theorem dX2_init_69 : decode cX2_init 69 = .ok (.putfield 20, 3) := by decide +kernel
theorem dX2_init_72 : decode cX2_init 72 = .ok (.return_, 1) := by decide +kernel
theorem dX2_ofKinds_0 : decode cX2_ofKinds 0 = .ok (.aload_n 0, 1) := by decide +kernel
theorem dX2_ofKinds_1 : decode cX2_ofKinds 1 = .ok (.getfield 11, 3) := by decide +kernel
theorem dX2_ofKinds_4 : decode cX2_ofKinds 4 = .ok (.iload_n 1, 1) := by decide +kernel
theorem dX2_ofKinds_5 : decode cX2_ofKinds 5 = .ok (.aaload, 1) := by decide +kernel
theorem dX2_ofKinds_6 : decode cX2_ofKinds 6 = .ok (.iload_n 2, 1) := by decide +kernel
theorem dX2_ofKinds_7 : decode cX2_ofKinds 7 = .ok (.iaload, 1) := by decide +kernel
theorem dX2_ofKinds_8 : decode cX2_ofKinds 8 = .ok (.ireturn, 1) := by decide +kernel
theorem dX2_ofSigns_0 : decode cX2_ofSigns 0 = .ok (.aload_n 0, 1) := by decide +kernel
theorem dX2_ofSigns_1 : decode cX2_ofSigns 1 = .ok (.getfield 11, 3) := by decide +kernel
theorem dX2_ofSigns_4 : decode cX2_ofSigns 4 = .ok (.iload_n 1, 1) := by decide +kernel
theorem dX2_ofSigns_5 : decode cX2_ofSigns 5 = .ok (.bipush 8, 2) := by decide +kernel
theorem dX2_ofSigns_7 : decode cX2_ofSigns 7 = .ok (.irem, 1) := by decide +kernel
theorem dX2_ofSigns_8 : decode cX2_ofSigns 8 = .ok (.aaload, 1) := by decide +kernel
theorem dX2_ofSigns_9 : decode cX2_ofSigns 9 = .ok (.iload_n 2, 1) := by decide +kernel
theorem dX2_ofSigns_10 : decode cX2_ofSigns 10 = .ok (.bipush 8, 2) := by decide +kernel
theorem dX2_ofSigns_12 : decode cX2_ofSigns 12 = .ok (.irem, 1) := by decide +kernel
theorem dX2_ofSigns_13 : decode cX2_ofSigns 13 = .ok (.iaload, 1) := by decide +kernel
theorem dX2_ofSigns_14 : decode cX2_ofSigns 14 = .ok (.ireturn, 1) := by decide +kernel
theorem dX2_putForKinds_0 : decode cX2_putForKinds 0 = .ok (.aload_n 0, 1) := by decide +kernel
theorem dX2_putForKinds_1 : decode cX2_putForKinds 1 = .ok (.getfield 11, 3) := by decide +kernel
theorem dX2_putForKinds_4 : decode cX2_putForKinds 4 = .ok (.iload_n 1, 1) := by decide +kernel
theorem dX2_putForKinds_5 : decode cX2_putForKinds 5 = .ok (.aaload, 1) := by decide +kernel
