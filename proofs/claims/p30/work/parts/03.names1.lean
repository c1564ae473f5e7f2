set_option maxRecDepth 20000 in
theorem ggX2_init_X4_init : GoodIn wsX2_init wsX4_init := goodIn_r _ [10, 11, 2, 3, 12, 13, 14] (by decide +kernel) (by decide +kernel)
set_option maxRecDepth 20000 in
theorem gX2_init_X4_init : GoodIn wsX2_init (wsX4_init) := ggX2_init_X4_init
theorem dX2_init_0 : decode cX2_init 0 = .ok (.aload_n 0, 1) := by decide +kernel
theorem dX2_init_1 : decode cX2_init 1 = .ok (.invokespecial 3, 3) := by decide +kernel
theorem dX2_init_4 : decode cX2_init 4 = .ok (.aload_n 0, 1) := by decide +kernel
theorem dX2_init_5 : decode cX2_init 5 = .ok (.new 9, 3) := by decide +kernel
theorem dX2_init_8 : decode cX2_init 8 = .ok (.dup, 1) := by decide +kernel
theorem dX2_init_9 : decode cX2_init 9 = .ok (.sipush 150, 3) := by decide +kernel
theorem dX2_init_12 : decode cX2_init 12 = .ok (.invokespecial 11, 3) := by decide +kernel
theorem dX2_init_15 : decode cX2_init 15 = .ok (.putfield 14, 3) := by decide +kernel
theorem dX2_init_18 : decode cX2_init 18 = .ok (.return_, 1) := by decide +kernel
set_option maxRecDepth 20000 in
theorem ggX3_init_X4_init : GoodIn wsX3_init wsX4_init := goodIn_r _ [16, 17, 2, 3, 18, 19, 20] (by decide +kernel) (by decide +kernel)
set_option maxRecDepth 20000 in
theorem gX3_init_X4_init : GoodIn wsX3_init (wsX4_init) := ggX3_init_X4_init
theorem dX3_init_0 : decode cX3_init 0 = .ok (.aload_n 0, 1) := by decide +kernel
theorem dX3_init_1 : decode cX3_init 1 = .ok (.invokespecial 3, 3) := by decide +kernel
theorem dX3_init_4 : decode cX3_init 4 = .ok (.aload_n 0, 1) := by decide +kernel
theorem dX3_init_5 : decode cX3_init 5 = .ok (.new 9, 3) := by decide +kernel
theorem dX3_init_8 : decode cX3_init 8 = .ok (.dup, 1) := by decide +kernel
theorem dX3_init_9 : decode cX3_init 9 = .ok (.sipush 256, 3) := by decide +kernel
theorem dX3_init_12 : decode cX3_init 12 = .ok (.invokespecial 11, 3) := by decide +kernel
theorem dX3_init_15 : decode cX3_init 15 = .ok (.putfield 14, 3) := by decide +kernel
theorem dX3_init_18 : decode cX3_init 18 = .ok (.aload_n 0, 1) := by decide +kernel
theorem dX3_init_19 : decode cX3_init 19 = .ok (.new 9, 3) := by decide +kernel
theorem dX3_init_22 : decode cX3_init 22 = .ok (.dup, 1) := by decide +kernel
theorem dX3_init_23 : decode cX3_init 23 = .ok (.sipush 256, 3) := by decide +kernel
theorem dX3_init_26 : decode cX3_init 26 = .ok (.invokespecial 11, 3) := by decide +kernel
theorem dX3_init_29 : decode cX3_init 29 = .ok (.putfield 20, 3) := by decide +kernel
theorem dX3_init_32 : decode cX3_init 32 = .ok (.aload_n 0, 1) := by decide +kernel
theorem dX3_init_33 : decode cX3_init 33 = .ok (.new 9, 3) := by decide +kernel
theorem dX3_init_36 : decode cX3_init 36 = .ok (.dup, 1) := by decide +kernel
theorem dX3_init_37 : decode cX3_init 37 = .ok (.sipush 256, 3) := by decide +kernel
theorem dX3_init_40 : decode cX3_init 40 = .ok (.invokespecial 11, 3) := by decide +kernel
theorem dX3_init_43 : decode cX3_init 43 = .ok (.putfield 23, 3) := by decide +kernel
theorem dX3_init_46 : decode cX3_init 46 = .ok (.aload_n 0, 1) := by decide +kernel
theorem dX3_init_47 : decode cX3_init 47 = .ok (.new 9, 3) := by decide +kernel
theorem dX3_init_50 : decode cX3_init 50 = .ok (.dup, 1) := by decide +kernel
theorem dX3_init_51 : decode cX3_init 51 = .ok (.bipush 8, 2) := by decide +kernel
theorem dX3_init_53 : decode cX3_init 53 = .ok (.invokespecial 11, 3) := by decide +kernel
theorem dX3_init_56 : decode cX3_init 56 = .ok (.putfield 26, 3) := by decide +kernel
theorem dX3_init_59 : decode cX3_init 59 = .ok (.aload_n 0, 1) := by decide +kernel
theorem dX3_init_60 : decode cX3_init 60 = .ok (.new 9, 3) := by decide +kernel
theorem dX3_init_63 : decode cX3_init 63 = .ok (.dup, 1) := by decide +kernel
theorem dX3_init_64 : decode cX3_init 64 = .ok (.bipush 8, 2) := by decide +kernel
theorem dX3_init_66 : decode cX3_init 66 = .ok (.invokespecial 11, 3) := by decide +kernel
theorem dX3_init_69 : decode cX3_init 69 = .ok (.putfield 29, 3) := by decide +kernel
theorem dX3_init_72 : decode cX3_init 72 = .ok (.aload_n 0, 1) := by decide +kernel
theorem dX3_init_73 : decode cX3_init 73 = .ok (.new 9, 3) := by decide +kernel
theorem dX3_init_76 : decode cX3_init 76 = .ok (.dup, 1) := by decide +kernel
theorem dX3_init_77 : decode cX3_init 77 = .ok (.sipush 402, 3) := by decide +kernel
theorem dX3_init_80 : decode cX3_init 80 = .ok (.invokespecial 11, 3) := by decide +kernel
theorem dX3_init_83 : decode cX3_init 83 = .ok (.putfield 32, 3) := by decide +kernel
theorem dX3_init_86 : decode cX3_init 86 = .ok (.aload_n 0, 1) := by decide +kernel
theorem dX3_init_87 : decode cX3_init 87 = .ok (.new 9, 3) := by decide +kernel
theorem dX3_init_90 : decode cX3_init 90 = .ok (.dup, 1) := by decide +kernel
theorem dX3_init_91 : decode cX3_init 91 = .ok (.sipush 402, 3) := by decide +kernel
theorem dX3_init_94 : decode cX3_init 94 = .ok (.invokespecial 11, 3) := by decide +kernel
theorem dX3_init_97 : decode cX3_init 97 = .ok (.putfield 35, 3) := by decide +kernel
theorem dX3_init_100 : decode cX3_init 100 = .ok (.return_, 1) := by decide +kernel
set_option maxRecDepth 20000 in
theorem ggX3_measure_X6_players : GoodIn wsX3_measure wsX6_players := goodIn_r _ [13, 14, 15, 16, 17, 12, 18, 19, 20, 21, 22, 23, 24, 25, 26, 27, 28, 29, 122, 123, 124, 125, 126, 127, 128, 129] (by decide +kernel) (by decide +kernel)
set_option maxRecDepth 20000 in
theorem gX3_measure_X6_players : GoodIn wsX3_measure (wsV RX3 38 RX6 yX6_players wsX6_players) := goodIn_app (goodIn_of _ (by decide +kernel)) ggX3_measure_X6_players
set_option maxRecDepth 20000 in
theorem ggX3_measure_X3_findYesSayers : GoodIn wsX3_measure wsX3_findYesSayers := goodIn_r _ [34, 35, 36, 37, 38, 27, 39, 29, 40, 41, 42, 12, 43, 14, 19, 15, 16, 17, 18, 20, 21, 22, 23, 24, 25, 26, 28, 44, 45, 46, 47, 48, 109, 110, 111, 112, 113, 114, 115, 116, 117, 118, 119, 120, 121, 129, 122, 123, 124, 125, 126, 127, 128] (by decide +kernel) (by decide +kernel)
set_option maxRecDepth 20000 in
theorem gX3_measure_X3_findYesSayers : GoodIn wsX3_measure (wsV RX3 51 RX3 yX3_findYesSayers wsX3_findYesSayers) := goodIn_app (goodIn_of _ (by decide +kernel)) ggX3_measure_X3_findYesSayers
set_option maxRecDepth 20000 in
theorem ggX3_measure_X3_findStrengths : GoodIn wsX3_measure wsX3_findStrengths := goodIn_r _ [52, 53, 35, 36, 37, 38, 27, 39, 29, 54, 55, 56, 12, 57, 14, 44, 25, 26, 28, 58, 59, 60, 61, 62, 63, 64, 65, 66, 67, 68, 24, 69, 70, 71, 72, 73, 74, 75, 76, 77, 78, 79, 80, 81, 82, 83, 45, 46, 47, 48, 109, 110, 111, 112, 113, 114, 115, 116, 117, 118, 119, 120, 121, 129, 122, 123, 124, 125, 126, 127, 128] (by decide +kernel) (by decide +kernel)
set_option maxRecDepth 20000 in
theorem gX3_measure_X3_findStrengths : GoodIn wsX3_measure (wsV RX3 55 RX3 yX3_findStrengths wsX3_findStrengths) := goodIn_app (goodIn_of _ (by decide +kernel)) ggX3_measure_X3_findStrengths
set_option maxRecDepth 20000 in
theorem ggX3_measure_X4_empty : GoodIn wsX3_measure wsX4_empty := goodIn_r _ [39, 29, 129] (by decide +kernel) (by decide +kernel)
set_option maxRecDepth 20000 in
theorem gX3_measure_X4_empty : GoodIn wsX3_measure (wsV RX3 70 RX4 yX4_empty wsX4_empty) := goodIn_app (goodIn_of _ (by decide +kernel)) ggX3_measure_X4_empty
set_option maxRecDepth 20000 in
theorem ggX3_measure_X3_isSetOfPlayers : GoodIn wsX3_measure wsX3_isSetOfPlayers := goodIn_r _ [87, 1, 109, 110, 111, 112, 113, 114, 115, 116, 117, 118, 119, 120, 121] (by decide +kernel) (by decide +kernel)
set_option maxRecDepth 20000 in
theorem gX3_measure_X3_isSetOfPlayers : GoodIn wsX3_measure (wsV RX3 73 RX3 yX3_isSetOfPlayers wsX3_isSetOfPlayers) := goodIn_app (goodIn_of _ (by decide +kernel)) ggX3_measure_X3_isSetOfPlayers
set_option maxRecDepth 20000 in
theorem ggX3_measure_X3_isWinning : GoodIn wsX3_measure wsX3_isWinning := goodIn_r _ [91, 53, 2, 44, 25, 26, 27, 28, 29, 109, 110, 111, 112, 113, 114, 115, 116, 117, 118, 119, 120, 121, 129] (by decide +kernel) (by decide +kernel)
set_option maxRecDepth 20000 in
theorem gX3_measure_X3_isWinning : GoodIn wsX3_measure (wsV RX3 77 RX3 yX3_isWinning wsX3_isWinning) := goodIn_app (goodIn_of _ (by decide +kernel)) ggX3_measure_X3_isWinning
set_option maxRecDepth 20000 in
theorem ggX3_measure_X3_countWinning : GoodIn wsX3_measure wsX3_countWinning := goodIn_r _ [95, 3, 4, 7, 8, 6, 96, 5, 97, 70, 71, 72, 73, 74, 75, 98, 77, 99, 100, 101, 102, 103, 33, 104, 1, 76, 78, 88, 89, 90, 91, 53, 2, 44, 25, 26, 27, 28, 29, 105, 106, 107, 108, 45, 46, 47, 48, 109, 110, 111, 112, 113, 114, 115, 116, 117, 118, 119, 120, 121, 129] (by decide +kernel) (by decide +kernel)
set_option maxRecDepth 20000 in
theorem gX3_measure_X3_countWinning : GoodIn wsX3_measure (wsV RX3 80 RX3 yX3_countWinning wsX3_countWinning) := goodIn_app (goodIn_of _ (by decide +kernel)) ggX3_measure_X3_countWinning
theorem dX3_measure_0 : decode cX3_measure 0 = .ok (.aload_n 0, 1) := by decide +kernel
theorem dX3_measure_1 : decode cX3_measure 1 = .ok (.aload_n 1, 1) := by decide +kernel
theorem dX3_measure_2 : decode cX3_measure 2 = .ok (.invokevirtual 38, 3) := by decide +kernel
theorem dX3_measure_5 : decode cX3_measure 5 = .ok (.putfield 44, 3) := by decide +kernel
theorem dX3_measure_8 : decode cX3_measure 8 = .ok (.aload_n 0, 1) := by decide +kernel
theorem dX3_measure_9 : decode cX3_measure 9 = .ok (.aload_n 1, 1) := by decide +kernel
theorem dX3_measure_10 : decode cX3_measure 10 = .ok (.getfield 47, 3) := by decide +kernel
theorem dX3_measure_13 : decode cX3_measure 13 = .ok (.putfield 50, 3) := by decide +kernel
theorem dX3_measure_16 : decode cX3_measure 16 = .ok (.aload_n 0, 1) := by decide +kernel
theorem dX3_measure_17 : decode cX3_measure 17 = .ok (.aload_n 1, 1) := by decide +kernel
theorem dX3_measure_18 : decode cX3_measure 18 = .ok (.invokevirtual 51, 3) := by decide +kernel
theorem dX3_measure_21 : decode cX3_measure 21 = .ok (.aload_n 0, 1) := by decide +kernel
theorem dX3_measure_22 : decode cX3_measure 22 = .ok (.aload_n 1, 1) := by decide +kernel
theorem dX3_measure_23 : decode cX3_measure 23 = .ok (.invokevirtual 55, 3) := by decide +kernel
theorem dX3_measure_26 : decode cX3_measure 26 = .ok (.aload_n 0, 1) := by decide +kernel
theorem dX3_measure_27 : decode cX3_measure 27 = .ok (.iconst 0, 1) := by decide +kernel
theorem dX3_measure_28 : decode cX3_measure 28 = .ok (.putfield 58, 3) := by decide +kernel
theorem dX3_measure_31 : decode cX3_measure 31 = .ok (.aload_n 0, 1) := by decide +kernel
theorem dX3_measure_32 : decode cX3_measure 32 = .ok (.aload_n 0, 1) := by decide +kernel
theorem dX3_measure_33 : decode cX3_measure 33 = .ok (.getfield 44, 3) := by decide +kernel
theorem dX3_measure_36 : decode cX3_measure 36 = .ok (.putfield 61, 3) := by decide +kernel
theorem dX3_measure_39 : decode cX3_measure 39 = .ok (.aload_n 0, 1) := by decide +kernel
theorem dX3_measure_40 : decode cX3_measure 40 = .ok (.iconst 0, 1) := by decide +kernel
theorem dX3_measure_41 : decode cX3_measure 41 = .ok (.putfield 64, 3) := by decide +kernel
theorem dX3_measure_44 : decode cX3_measure 44 = .ok (.aload_n 0, 1) := by decide +kernel
theorem dX3_measure_45 : decode cX3_measure 45 = .ok (.iconst 0, 1) := by decide +kernel
theorem dX3_measure_46 : decode cX3_measure 46 = .ok (.putfield 67, 3) := by decide +kernel
theorem dX3_measure_49 : decode cX3_measure 49 = .ok (.aload_n 0, 1) := by decide +kernel
theorem dX3_measure_50 : decode cX3_measure 50 = .ok (.getfield 26, 3) := by decide +kernel
theorem dX3_measure_53 : decode cX3_measure 53 = .ok (.invokevirtual 70, 3) := by decide +kernel
theorem dX3_measure_56 : decode cX3_measure 56 = .ok (.aload_n 0, 1) := by decide +kernel
theorem dX3_measure_57 : decode cX3_measure 57 = .ok (.getfield 29, 3) := by decide +kernel
theorem dX3_measure_60 : decode cX3_measure 60 = .ok (.invokevirtual 70, 3) := by decide +kernel
theorem dX3_measure_63 : decode cX3_measure 63 = .ok (.iconst 0, 1) := by decide +kernel
theorem dX3_measure_64 : decode cX3_measure 64 = .ok (.istore_n 2, 1) := by decide +kernel
theorem dX3_measure_65 : decode cX3_measure 65 = .ok (.iload_n 2, 1) := by decide +kernel
theorem dX3_measure_66 : decode cX3_measure 66 = .ok (.sipush 256, 3) := by decide +kernel
theorem dX3_measure_69 : decode cX3_measure 69 = .ok (.if_icmp .ge 30, 3) := by decide +kernel
theorem dX3_measure_72 : decode cX3_measure 72 = .ok (.aload_n 0, 1) := by decide +kernel
theorem dX3_measure_73 : decode cX3_measure 73 = .ok (.iload_n 2, 1) := by decide +kernel
theorem dX3_measure_74 : decode cX3_measure 74 = .ok (.invokevirtual 73, 3) := by decide +kernel
theorem dX3_measure_77 : decode cX3_measure 77 = .ok (.ifCond .eq 16, 3) := by decide +kernel
theorem dX3_measure_80 : decode cX3_measure 80 = .ok (.aload_n 0, 1) := by decide +kernel
theorem dX3_measure_81 : decode cX3_measure 81 = .ok (.iload_n 2, 1) := by decide +kernel
theorem dX3_measure_82 : decode cX3_measure 82 = .ok (.invokevirtual 77, 3) := by decide +kernel
theorem dX3_measure_85 : decode cX3_measure 85 = .ok (.ifCond .eq 8, 3) := by decide +kernel
theorem dX3_measure_88 : decode cX3_measure 88 = .ok (.aload_n 0, 1) := by decide +kernel
theorem dX3_measure_89 : decode cX3_measure 89 = .ok (.iload_n 2, 1) := by decide +kernel
theorem dX3_measure_90 : decode cX3_measure 90 = .ok (.invokevirtual 80, 3) := by decide +kernel
theorem dX3_measure_93 : decode cX3_measure 93 = .ok (.iinc 2 1, 3) := by decide +kernel
theorem dX3_measure_96 : decode cX3_measure 96 = .ok (.goto (-31), 3) := by decide +kernel
theorem dX3_measure_99 : decode cX3_measure 99 = .ok (.return_, 1) := by decide +kernel
set_option maxRecDepth 20000 in
theorem ggX3_findYesSayers_X4_empty : GoodIn wsX3_findYesSayers wsX4_empty := goodIn_r _ [6, 7, 45] (by decide +kernel) (by decide +kernel)
set_option maxRecDepth 20000 in
theorem gX3_findYesSayers_X4_empty : GoodIn wsX3_findYesSayers (wsV RX3 70 RX4 yX4_empty wsX4_empty) := goodIn_app (goodIn_of _ (by decide +kernel)) ggX3_findYesSayers_X4_empty
set_option maxRecDepth 20000 in
theorem ggX3_findYesSayers_X6_blocOf : GoodIn wsX3_findYesSayers wsX6_blocOf := goodIn_r _ [12, 13, 14, 15, 16, 17, 11, 18, 19, 20, 21, 22, 23, 24, 25, 5, 26, 7, 46, 47, 48, 49, 50, 51, 52, 45] (by decide +kernel) (by decide +kernel)
set_option maxRecDepth 20000 in
theorem gX3_findYesSayers_X6_blocOf : GoodIn wsX3_findYesSayers (wsV RX3 83 RX6 yX6_blocOf wsX6_blocOf) := goodIn_app (goodIn_of _ (by decide +kernel)) ggX3_findYesSayers_X6_blocOf
set_option maxRecDepth 20000 in
theorem ggX3_findYesSayers_X4_at : GoodIn wsX3_findYesSayers wsX4_at := goodIn_r _ [26, 7, 45] (by decide +kernel) (by decide +kernel)
set_option maxRecDepth 20000 in
theorem gX3_findYesSayers_X4_at : GoodIn wsX3_findYesSayers (wsV RX3 87 RX4 yX4_at wsX4_at) := goodIn_app (goodIn_of _ (by decide +kernel)) ggX3_findYesSayers_X4_at
set_option maxRecDepth 20000 in
theorem ggX3_findYesSayers_X4_put : GoodIn wsX3_findYesSayers wsX4_put := goodIn_r _ [31, 7, 45] (by decide +kernel) (by decide +kernel)
set_option maxRecDepth 20000 in
theorem gX3_findYesSayers_X4_put : GoodIn wsX3_findYesSayers (wsV RX3 90 RX4 yX4_put wsX4_put) := goodIn_app (goodIn_of _ (by decide +kernel)) ggX3_findYesSayers_X4_put
theorem dX3_findYesSayers_0 : decode cX3_findYesSayers 0 = .ok (.aload_n 0, 1) := by decide +kernel
theorem dX3_findYesSayers_1 : decode cX3_findYesSayers 1 = .ok (.getfield 14, 3) := by decide +kernel
theorem dX3_findYesSayers_4 : decode cX3_findYesSayers 4 = .ok (.invokevirtual 70, 3) := by decide +kernel
theorem dX3_findYesSayers_7 : decode cX3_findYesSayers 7 = .ok (.iconst 0, 1) := by decide +kernel
theorem dX3_findYesSayers_8 : decode cX3_findYesSayers 8 = .ok (.istore_n 2, 1) := by decide +kernel
theorem dX3_findYesSayers_9 : decode cX3_findYesSayers 9 = .ok (.iload_n 2, 1) := by decide +kernel
theorem dX3_findYesSayers_10 : decode cX3_findYesSayers 10 = .ok (.bipush 8, 2) := by decide +kernel
theorem dX3_findYesSayers_12 : decode cX3_findYesSayers 12 = .ok (.if_icmp .ge 58, 3) := by decide +kernel
theorem dX3_findYesSayers_15 : decode cX3_findYesSayers 15 = .ok (.aload_n 1, 1) := by decide +kernel
theorem dX3_findYesSayers_16 : decode cX3_findYesSayers 16 = .ok (.iload_n 2, 1) := by decide +kernel
theorem dX3_findYesSayers_17 : decode cX3_findYesSayers 17 = .ok (.invokevirtual 83, 3) := by decide +kernel
theorem dX3_findYesSayers_20 : decode cX3_findYesSayers 20 = .ok (.istore_n 3, 1) := by decide +kernel
theorem dX3_findYesSayers_21 : decode cX3_findYesSayers 21 = .ok (.iconst 1, 1) := by decide +kernel
theorem dX3_findYesSayers_22 : decode cX3_findYesSayers 22 = .ok (.iload_n 2, 1) := by decide +kernel
theorem dX3_findYesSayers_23 : decode cX3_findYesSayers 23 = .ok (.ishl, 1) := by decide +kernel
theorem dX3_findYesSayers_24 : decode cX3_findYesSayers 24 = .ok (.istore 4, 2) := by decide +kernel
theorem dX3_findYesSayers_26 : decode cX3_findYesSayers 26 = .ok (.iload 4, 2) := by decide +kernel
theorem dX3_findYesSayers_28 : decode cX3_findYesSayers 28 = .ok (.iconst 2, 1) := by decide +kernel
theorem dX3_findYesSayers_29 : decode cX3_findYesSayers 29 = .ok (.iload_n 2, 1) := by decide +kernel
theorem dX3_findYesSayers_30 : decode cX3_findYesSayers 30 = .ok (.ishl, 1) := by decide +kernel
theorem dX3_findYesSayers_31 : decode cX3_findYesSayers 31 = .ok (.if_icmp .ge 33, 3) := by decide +kernel
theorem dX3_findYesSayers_34 : decode cX3_findYesSayers 34 = .ok (.aload_n 0, 1) := by decide +kernel
theorem dX3_findYesSayers_35 : decode cX3_findYesSayers 35 = .ok (.getfield 14, 3) := by decide +kernel
theorem dX3_findYesSayers_38 : decode cX3_findYesSayers 38 = .ok (.iload 4, 2) := by decide +kernel
theorem dX3_findYesSayers_40 : decode cX3_findYesSayers 40 = .ok (.aload_n 0, 1) := by decide +kernel
theorem dX3_findYesSayers_41 : decode cX3_findYesSayers 41 = .ok (.getfield 14, 3) := by decide +kernel
theorem dX3_findYesSayers_44 : decode cX3_findYesSayers 44 = .ok (.iload 4, 2) := by decide +kernel
theorem dX3_findYesSayers_46 : decode cX3_findYesSayers 46 = .ok (.iconst 1, 1) := by decide +kernel
theorem dX3_findYesSayers_47 : decode cX3_findYesSayers 47 = .ok (.iload_n 2, 1) := by decide +kernel
theorem dX3_findYesSayers_48 : decode cX3_findYesSayers 48 = .ok (.ishl, 1) := by decide +kernel
theorem dX3_findYesSayers_49 : decode cX3_findYesSayers 49 = .ok (.isub, 1) := by decide +kernel
theorem dX3_findYesSayers_50 : decode cX3_findYesSayers 50 = .ok (.invokevirtual 87, 3) := by decide +kernel
theorem dX3_findYesSayers_53 : decode cX3_findYesSayers 53 = .ok (.iload_n 3, 1) := by decide +kernel
theorem dX3_findYesSayers_54 : decode cX3_findYesSayers 54 = .ok (.ior, 1) := by decide +kernel
theorem dX3_findYesSayers_55 : decode cX3_findYesSayers 55 = .ok (.invokevirtual 90, 3) := by decide +kernel
theorem dX3_findYesSayers_58 : decode cX3_findYesSayers 58 = .ok (.iinc 4 1, 3) := by decide +kernel
theorem dX3_findYesSayers_61 : decode cX3_findYesSayers 61 = .ok (.goto (-35), 3) := by decide +kernel
theorem dX3_findYesSayers_64 : decode cX3_findYesSayers 64 = .ok (.iinc 2 1, 3) := by decide +kernel
theorem dX3_findYesSayers_67 : decode cX3_findYesSayers 67 = .ok (.goto (-58), 3) := by decide +kernel
theorem dX3_findYesSayers_70 : decode cX3_findYesSayers 70 = .ok (.return_, 1) := by decide +kernel
set_option maxRecDepth 20000 in
theorem ggX3_findStrengths_X4_empty : GoodIn wsX3_findStrengths wsX4_empty := goodIn_r _ [7, 8, 63] (by decide +kernel) (by decide +kernel)
set_option maxRecDepth 20000 in
theorem gX3_findStrengths_X4_empty : GoodIn wsX3_findStrengths (wsV RX3 70 RX4 yX4_empty wsX4_empty) := goodIn_app (goodIn_of _ (by decide +kernel)) ggX3_findStrengths_X4_empty
set_option maxRecDepth 20000 in
theorem ggX3_findStrengths_X6_everybody : GoodIn wsX3_findStrengths wsX6_everybody := goodIn_r _ [13, 14, 64, 65, 66, 67, 68, 69, 70] (by decide +kernel) (by decide +kernel)
set_option maxRecDepth 20000 in
theorem gX3_findStrengths_X6_everybody : GoodIn wsX3_findStrengths (wsV RX3 94 RX6 yX6_everybody wsX6_everybody) := goodIn_app (goodIn_of _ (by decide +kernel)) ggX3_findStrengths_X6_everybody
set_option maxRecDepth 20000 in
theorem ggX3_findStrengths_X4_at : GoodIn wsX3_findStrengths wsX4_at := goodIn_r _ [18, 8, 63] (by decide +kernel) (by decide +kernel)
set_option maxRecDepth 20000 in
theorem gX3_findStrengths_X4_at : GoodIn wsX3_findStrengths (wsV RX3 87 RX4 yX4_at wsX4_at) := goodIn_app (goodIn_of _ (by decide +kernel)) ggX3_findStrengths_X4_at
set_option maxRecDepth 20000 in
theorem ggX3_findStrengths_X6_firstBrokenRule : GoodIn wsX3_findStrengths wsX6_firstBrokenRule := goodIn_r _ [22, 23, 24, 25, 26, 12, 27, 28, 29, 30, 16, 17, 6, 18, 8, 31, 32, 33, 34, 35, 36, 37, 38, 39, 40, 64, 65, 66, 67, 68, 69, 70, 63] (by decide +kernel) (by decide +kernel)
set_option maxRecDepth 20000 in
theorem gX3_findStrengths_X6_firstBrokenRule : GoodIn wsX3_findStrengths (wsV RX3 97 RX6 yX6_firstBrokenRule wsX6_firstBrokenRule) := goodIn_app (goodIn_of _ (by decide +kernel)) ggX3_findStrengths_X6_firstBrokenRule
set_option maxRecDepth 20000 in
theorem ggX3_findStrengths_X6_weightOf : GoodIn wsX3_findStrengths wsX6_weightOf := goodIn_r _ [44, 14, 45, 38, 39, 40, 30, 16, 17, 6, 18, 8, 64, 65, 66, 67, 68, 69, 70, 63] (by decide +kernel) (by decide +kernel)
set_option maxRecDepth 20000 in
theorem gX3_findStrengths_X6_weightOf : GoodIn wsX3_findStrengths (wsV RX3 100 RX6 yX6_weightOf wsX6_weightOf) := goodIn_app (goodIn_of _ (by decide +kernel)) ggX3_findStrengths_X6_weightOf
set_option maxRecDepth 20000 in
theorem ggX3_findStrengths_X4_put : GoodIn wsX3_findStrengths wsX4_put := goodIn_r _ [49, 8, 63] (by decide +kernel) (by decide +kernel)
set_option maxRecDepth 20000 in
theorem gX3_findStrengths_X4_put : GoodIn wsX3_findStrengths (wsV RX3 90 RX4 yX4_put wsX4_put) := goodIn_app (goodIn_of _ (by decide +kernel)) ggX3_findStrengths_X4_put
theorem dX3_findStrengths_0 : decode cX3_findStrengths 0 = .ok (.aload_n 0, 1) := by decide +kernel
theorem dX3_findStrengths_1 : decode cX3_findStrengths 1 = .ok (.getfield 20, 3) := by decide +kernel
theorem dX3_findStrengths_4 : decode cX3_findStrengths 4 = .ok (.invokevirtual 70, 3) := by decide +kernel
theorem dX3_findStrengths_7 : decode cX3_findStrengths 7 = .ok (.aload_n 1, 1) := by decide +kernel
theorem dX3_findStrengths_8 : decode cX3_findStrengths 8 = .ok (.invokevirtual 94, 3) := by decide +kernel
theorem dX3_findStrengths_11 : decode cX3_findStrengths 11 = .ok (.istore_n 2, 1) := by decide +kernel
theorem dX3_findStrengths_12 : decode cX3_findStrengths 12 = .ok (.iconst 0, 1) := by decide +kernel
theorem dX3_findStrengths_13 : decode cX3_findStrengths 13 = .ok (.istore_n 3, 1) := by decide +kernel
theorem dX3_findStrengths_14 : decode cX3_findStrengths 14 = .ok (.iload_n 3, 1) := by decide +kernel
theorem dX3_findStrengths_15 : decode cX3_findStrengths 15 = .ok (.iload_n 2, 1) := by decide +kernel
theorem dX3_findStrengths_16 : decode cX3_findStrengths 16 = .ok (.if_icmp .gt 54, 3) := by decide +kernel
theorem dX3_findStrengths_19 : decode cX3_findStrengths 19 = .ok (.iload_n 3, 1) := by decide +kernel
theorem dX3_findStrengths_20 : decode cX3_findStrengths 20 = .ok (.sipush 256, 3) := by decide +kernel
theorem dX3_findStrengths_23 : decode cX3_findStrengths 23 = .ok (.if_icmp .ge 47, 3) := by decide +kernel
theorem dX3_findStrengths_26 : decode cX3_findStrengths 26 = .ok (.aload_n 0, 1) := by decide +kernel
theorem dX3_findStrengths_27 : decode cX3_findStrengths 27 = .ok (.getfield 14, 3) := by decide +kernel
theorem dX3_findStrengths_30 : decode cX3_findStrengths 30 = .ok (.iload_n 3, 1) := by decide +kernel
theorem dX3_findStrengths_31 : decode cX3_findStrengths 31 = .ok (.invokevirtual 87, 3) := by decide +kernel
theorem dX3_findStrengths_34 : decode cX3_findStrengths 34 = .ok (.istore 4, 2) := by decide +kernel
theorem dX3_findStrengths_36 : decode cX3_findStrengths 36 = .ok (.aload_n 0, 1) := by decide +kernel
theorem dX3_findStrengths_37 : decode cX3_findStrengths 37 = .ok (.getfield 20, 3) := by decide +kernel
theorem dX3_findStrengths_40 : decode cX3_findStrengths 40 = .ok (.iload_n 3, 1) := by decide +kernel
theorem dX3_findStrengths_41 : decode cX3_findStrengths 41 = .ok (.aload_n 1, 1) := by decide +kernel
theorem dX3_findStrengths_42 : decode cX3_findStrengths 42 = .ok (.iload 4, 2) := by decide +kernel
theorem dX3_findStrengths_44 : decode cX3_findStrengths 44 = .ok (.invokevirtual 97, 3) := by decide +kernel
theorem dX3_findStrengths_47 : decode cX3_findStrengths 47 = .ok (.iconst (-1), 1) := by decide +kernel
theorem dX3_findStrengths_48 : decode cX3_findStrengths 48 = .ok (.if_icmp .ne 12, 3) := by decide +kernel
theorem dX3_findStrengths_51 : decode cX3_findStrengths 51 = .ok (.aload_n 1, 1) := by decide +kernel
theorem dX3_findStrengths_52 : decode cX3_findStrengths 52 = .ok (.iload 4, 2) := by decide +kernel
theorem dX3_findStrengths_54 : decode cX3_findStrengths 54 = .ok (.invokevirtual 100, 3) := by decide +kernel
theorem dX3_findStrengths_57 : decode cX3_findStrengths 57 = .ok (.goto 4, 3) := by decide +kernel
theorem dX3_findStrengths_60 : decode cX3_findStrengths 60 = .ok (.iconst 0, 1) := by decide +kernel
theorem dX3_findStrengths_61 : decode cX3_findStrengths 61 = .ok (.invokevirtual 90, 3) := by decide +kernel
theorem dX3_findStrengths_64 : decode cX3_findStrengths 64 = .ok (.iinc 3 1, 3) := by decide +kernel
theorem dX3_findStrengths_67 : decode cX3_findStrengths 67 = .ok (.goto (-53), 3) := by decide +kernel
theorem dX3_findStrengths_70 : decode cX3_findStrengths 70 = .ok (.return_, 1) := by decide +kernel
set_option maxRecDepth 20000 in
theorem ggX3_countWinning_J6_bitCount_0f7a4 : GoodIn wsX3_countWinning wsJ6_bitCount_0f7a4 := goodIn_r _ [11, 12, 13, 14] (by decide +kernel) (by decide +kernel)
set_option maxRecDepth 20000 in
theorem gX3_countWinning_J6_bitCount_0f7a4 : GoodIn wsX3_countWinning (va_wsS RX3 103 yJ6_bitCount_0f7a4 wsJ6_bitCount_0f7a4) := goodIn_app (goodIn_of _ (by decide +kernel)) ggX3_countWinning_J6_bitCount_0f7a4
set_option maxRecDepth 20000 in
theorem ggX3_countWinning_X7_factorial : GoodIn wsX3_countWinning wsX7_factorial := goodIn_r _ [17, 18] (by decide +kernel) (by decide +kernel)
set_option maxRecDepth 20000 in
theorem gX3_countWinning_X7_factorial_n108 : GoodIn wsX3_countWinning (wsX7_factorial) := ggX3_countWinning_X7_factorial
set_option maxRecDepth 20000 in
theorem ggX3_countWinning_X3_playerCount : GoodIn wsX3_countWinning wsX3_playerCount := goodIn_r _ [23, 24, 8, 9, 10, 11, 12, 13, 14, 47, 48, 49, 50, 51, 52, 53, 54, 55, 56, 57, 58, 59] (by decide +kernel) (by decide +kernel)
set_option maxRecDepth 20000 in
theorem gX3_countWinning_X3_playerCount : GoodIn wsX3_countWinning (wsV RX3 111 RX3 yX3_playerCount wsX3_playerCount) := goodIn_app (goodIn_of _ (by decide +kernel)) ggX3_countWinning_X3_playerCount
set_option maxRecDepth 20000 in
theorem ggX3_countWinning_X7_contains : GoodIn wsX3_countWinning wsX7_contains := goodIn_r _ [26] (by decide +kernel) (by decide +kernel)
set_option maxRecDepth 20000 in
theorem gX3_countWinning_X7_contains_n114 : GoodIn wsX3_countWinning (wsX7_contains) := ggX3_countWinning_X7_contains
set_option maxRecDepth 20000 in
theorem ggX3_countWinning_X3_isWinning : GoodIn wsX3_countWinning wsX3_isWinning := goodIn_r _ [30, 31, 32, 33, 34, 35, 36, 37, 38, 47, 48, 49, 50, 51, 52, 53, 54, 55, 56, 57, 58, 59, 60] (by decide +kernel) (by decide +kernel)
set_option maxRecDepth 20000 in
theorem gX3_countWinning_X3_isWinning : GoodIn wsX3_countWinning (wsV RX3 77 RX3 yX3_isWinning wsX3_isWinning) := goodIn_app (goodIn_of _ (by decide +kernel)) ggX3_countWinning_X3_isWinning
set_option maxRecDepth 20000 in
theorem ggX3_countWinning_X4_raise : GoodIn wsX3_countWinning wsX4_raise := goodIn_r _ [42, 38, 60] (by decide +kernel) (by decide +kernel)
set_option maxRecDepth 20000 in
theorem gX3_countWinning_X4_raise : GoodIn wsX3_countWinning (wsV RX3 118 RX4 yX4_raise wsX4_raise) := goodIn_app (goodIn_of _ (by decide +kernel)) ggX3_countWinning_X4_raise
set_option maxRecDepth 20000 in
theorem ggX3_countWinning_X4_put : GoodIn wsX3_countWinning wsX4_put := goodIn_r _ [46, 38, 60] (by decide +kernel) (by decide +kernel)
set_option maxRecDepth 20000 in
theorem gX3_countWinning_X4_put : GoodIn wsX3_countWinning (wsV RX3 90 RX4 yX4_put wsX4_put) := goodIn_app (goodIn_of _ (by decide +kernel)) ggX3_countWinning_X4_put
theorem dX3_countWinning_0 : decode cX3_countWinning 0 = .ok (.aload_n 0, 1) := by decide +kernel
theorem dX3_countWinning_1 : decode cX3_countWinning 1 = .ok (.dup, 1) := by decide +kernel
theorem dX3_countWinning_2 : decode cX3_countWinning 2 = .ok (.getfield 58, 3) := by decide +kernel
theorem dX3_countWinning_5 : decode cX3_countWinning 5 = .ok (.iconst 1, 1) := by decide +kernel
theorem dX3_countWinning_6 : decode cX3_countWinning 6 = .ok (.iadd, 1) := by decide +kernel
theorem dX3_countWinning_7 : decode cX3_countWinning 7 = .ok (.putfield 58, 3) := by decide +kernel
theorem dX3_countWinning_10 : decode cX3_countWinning 10 = .ok (.aload_n 0, 1) := by decide +kernel
theorem dX3_countWinning_11 : decode cX3_countWinning 11 = .ok (.dup, 1) := by decide +kernel
theorem dX3_countWinning_12 : decode cX3_countWinning 12 = .ok (.getfield 61, 3) := by decide +kernel
theorem dX3_countWinning_15 : decode cX3_countWinning 15 = .ok (.iload_n 1, 1) := by decide +kernel
theorem dX3_countWinning_16 : decode cX3_countWinning 16 = .ok (.iand, 1) := by decide +kernel
theorem dX3_countWinning_17 : decode cX3_countWinning 17 = .ok (.putfield 61, 3) := by decide +kernel
theorem dX3_countWinning_20 : decode cX3_countWinning 20 = .ok (.iload_n 1, 1) := by decide +kernel
theorem dX3_countWinning_21 : decode cX3_countWinning 21 = .ok (.invokestatic 103, 3) := by decide +kernel
theorem dX3_countWinning_24 : decode cX3_countWinning 24 = .ok (.istore_n 2, 1) := by decide +kernel
theorem dX3_countWinning_25 : decode cX3_countWinning 25 = .ok (.iload_n 2, 1) := by decide +kernel
theorem dX3_countWinning_26 : decode cX3_countWinning 26 = .ok (.iconst 1, 1) := by decide +kernel
theorem dX3_countWinning_27 : decode cX3_countWinning 27 = .ok (.isub, 1) := by decide +kernel
theorem dX3_countWinning_28 : decode cX3_countWinning 28 = .ok (.invokestatic 108, 3) := by decide +kernel
theorem dX3_countWinning_31 : decode cX3_countWinning 31 = .ok (.aload_n 0, 1) := by decide +kernel
theorem dX3_countWinning_32 : decode cX3_countWinning 32 = .ok (.invokevirtual 111, 3) := by decide +kernel
theorem dX3_countWinning_35 : decode cX3_countWinning 35 = .ok (.iload_n 2, 1) := by decide +kernel
theorem dX3_countWinning_36 : decode cX3_countWinning 36 = .ok (.isub, 1) := by decide +kernel
theorem dX3_countWinning_37 : decode cX3_countWinning 37 = .ok (.invokestatic 108, 3) := by decide +kernel
theorem dX3_countWinning_40 : decode cX3_countWinning 40 = .ok (.imul, 1) := by decide +kernel
theorem dX3_countWinning_41 : decode cX3_countWinning 41 = .ok (.istore_n 3, 1) := by decide +kernel
theorem dX3_countWinning_42 : decode cX3_countWinning 42 = .ok (.iconst 0, 1) := by decide +kernel
theorem dX3_countWinning_43 : decode cX3_countWinning 43 = .ok (.istore 4, 2) := by decide +kernel
theorem dX3_countWinning_45 : decode cX3_countWinning 45 = .ok (.iconst 0, 1) := by decide +kernel
theorem dX3_countWinning_46 : decode cX3_countWinning 46 = .ok (.istore 5, 2) := by decide +kernel
theorem dX3_countWinning_48 : decode cX3_countWinning 48 = .ok (.iload 5, 2) := by decide +kernel
theorem dX3_countWinning_50 : decode cX3_countWinning 50 = .ok (.bipush 8, 2) := by decide +kernel
theorem dX3_countWinning_52 : decode cX3_countWinning 52 = .ok (.if_icmp .ge 56, 3) := by decide +kernel
theorem dX3_countWinning_55 : decode cX3_countWinning 55 = .ok (.iload_n 1, 1) := by decide +kernel
theorem dX3_countWinning_56 : decode cX3_countWinning 56 = .ok (.iload 5, 2) := by decide +kernel
theorem dX3_countWinning_58 : decode cX3_countWinning 58 = .ok (.invokestatic 114, 3) := by decide +kernel
theorem dX3_countWinning_61 : decode cX3_countWinning 61 = .ok (.ifCond .eq 41, 3) := by decide +kernel
theorem dX3_countWinning_64 : decode cX3_countWinning 64 = .ok (.aload_n 0, 1) := by decide +kernel
theorem dX3_countWinning_65 : decode cX3_countWinning 65 = .ok (.iload_n 1, 1) := by decide +kernel
theorem dX3_countWinning_66 : decode cX3_countWinning 66 = .ok (.iconst 1, 1) := by decide +kernel
theorem dX3_countWinning_67 : decode cX3_countWinning 67 = .ok (.iload 5, 2) := by decide +kernel
theorem dX3_countWinning_69 : decode cX3_countWinning 69 = .ok (.ishl, 1) := by decide +kernel
theorem dX3_countWinning_70 : decode cX3_countWinning 70 = .ok (.iconst (-1), 1) := by decide +kernel
theorem dX3_countWinning_71 : decode cX3_countWinning 71 = .ok (.ixor, 1) := by decide +kernel
theorem dX3_countWinning_72 : decode cX3_countWinning 72 = .ok (.iand, 1) := by decide +kernel
theorem dX3_countWinning_73 : decode cX3_countWinning 73 = .ok (.invokevirtual 77, 3) := by decide +kernel
theorem dX3_countWinning_76 : decode cX3_countWinning 76 = .ok (.ifCond .ne 26, 3) := by decide +kernel
theorem dX3_countWinning_79 : decode cX3_countWinning 79 = .ok (.iinc 4 1, 3) := by decide +kernel
theorem dX3_countWinning_82 : decode cX3_countWinning 82 = .ok (.aload_n 0, 1) := by decide +kernel
theorem dX3_countWinning_83 : decode cX3_countWinning 83 = .ok (.getfield 26, 3) := by decide +kernel
theorem dX3_countWinning_86 : decode cX3_countWinning 86 = .ok (.iload 5, 2) := by decide +kernel
theorem dX3_countWinning_88 : decode cX3_countWinning 88 = .ok (.iconst 1, 1) := by decide +kernel
theorem dX3_countWinning_89 : decode cX3_countWinning 89 = .ok (.invokevirtual 118, 3) := by decide +kernel
theorem dX3_countWinning_92 : decode cX3_countWinning 92 = .ok (.aload_n 0, 1) := by decide +kernel
theorem dX3_countWinning_93 : decode cX3_countWinning 93 = .ok (.getfield 29, 3) := by decide +kernel
theorem dX3_countWinning_96 : decode cX3_countWinning 96 = .ok (.iload 5, 2) := by decide +kernel
theorem dX3_countWinning_98 : decode cX3_countWinning 98 = .ok (.iload_n 3, 1) := by decide +kernel
theorem dX3_countWinning_99 : decode cX3_countWinning 99 = .ok (.invokevirtual 118, 3) := by decide +kernel
theorem dX3_countWinning_102 : decode cX3_countWinning 102 = .ok (.iinc 5 1, 3) := by decide +kernel
theorem dX3_countWinning_105 : decode cX3_countWinning 105 = .ok (.goto (-57), 3) := by decide +kernel
theorem dX3_countWinning_108 : decode cX3_countWinning 108 = .ok (.aload_n 0, 1) := by decide +kernel
theorem dX3_countWinning_109 : decode cX3_countWinning 109 = .ok (.dup, 1) := by decide +kernel
theorem dX3_countWinning_110 : decode cX3_countWinning 110 = .ok (.getfield 67, 3) := by decide +kernel
theorem dX3_countWinning_113 : decode cX3_countWinning 113 = .ok (.iload 4, 2) := by decide +kernel
theorem dX3_countWinning_115 : decode cX3_countWinning 115 = .ok (.iadd, 1) := by decide +kernel
theorem dX3_countWinning_116 : decode cX3_countWinning 116 = .ok (.putfield 67, 3) := by decide +kernel
theorem dX3_countWinning_119 : decode cX3_countWinning 119 = .ok (.iload 4, 2) := by decide +kernel
theorem dX3_countWinning_121 : decode cX3_countWinning 121 = .ok (.iload_n 2, 1) := by decide +kernel
theorem dX3_countWinning_122 : decode cX3_countWinning 122 = .ok (.if_icmp .ne 25, 3) := by decide +kernel
theorem dX3_countWinning_125 : decode cX3_countWinning 125 = .ok (.aload_n 0, 1) := by decide +kernel
theorem dX3_countWinning_126 : decode cX3_countWinning 126 = .ok (.getfield 23, 3) := by decide +kernel
theorem dX3_countWinning_129 : decode cX3_countWinning 129 = .ok (.aload_n 0, 1) := by decide +kernel
theorem dX3_countWinning_130 : decode cX3_countWinning 130 = .ok (.getfield 64, 3) := by decide +kernel
theorem dX3_countWinning_133 : decode cX3_countWinning 133 = .ok (.iload_n 1, 1) := by decide +kernel
theorem dX3_countWinning_134 : decode cX3_countWinning 134 = .ok (.invokevirtual 90, 3) := by decide +kernel
theorem dX3_countWinning_137 : decode cX3_countWinning 137 = .ok (.aload_n 0, 1) := by decide +kernel
theorem dX3_countWinning_138 : decode cX3_countWinning 138 = .ok (.dup, 1) := by decide +kernel
theorem dX3_countWinning_139 : decode cX3_countWinning 139 = .ok (.getfield 64, 3) := by decide +kernel
theorem dX3_countWinning_142 : decode cX3_countWinning 142 = .ok (.iconst 1, 1) := by decide +kernel
theorem dX3_countWinning_143 : decode cX3_countWinning 143 = .ok (.iadd, 1) := by decide +kernel
theorem dX3_countWinning_144 : decode cX3_countWinning 144 = .ok (.putfield 64, 3) := by decide +kernel
theorem dX3_countWinning_147 : decode cX3_countWinning 147 = .ok (.return_, 1) := by decide +kernel
theorem dX3_isSetOfPlayers_0 : decode cX3_isSetOfPlayers 0 = .ok (.iload_n 1, 1) := by decide +kernel
theorem dX3_isSetOfPlayers_1 : decode cX3_isSetOfPlayers 1 = .ok (.aload_n 0, 1) := by decide +kernel
theorem dX3_isSetOfPlayers_2 : decode cX3_isSetOfPlayers 2 = .ok (.getfield 44, 3) := by decide +kernel
theorem dX3_isSetOfPlayers_5 : decode cX3_isSetOfPlayers 5 = .ok (.iconst (-1), 1) := by decide +kernel
theorem dX3_isSetOfPlayers_6 : decode cX3_isSetOfPlayers 6 = .ok (.ixor, 1) := by decide +kernel
theorem dX3_isSetOfPlayers_7 : decode cX3_isSetOfPlayers 7 = .ok (.iand, 1) := by decide +kernel
theorem dX3_isSetOfPlayers_8 : decode cX3_isSetOfPlayers 8 = .ok (.ifCond .ne 7, 3) := by decide +kernel
theorem dX3_isSetOfPlayers_11 : decode cX3_isSetOfPlayers 11 = .ok (.iconst 1, 1) := by decide +kernel
theorem dX3_isSetOfPlayers_12 : decode cX3_isSetOfPlayers 12 = .ok (.goto 4, 3) := by decide +kernel
theorem dX3_isSetOfPlayers_15 : decode cX3_isSetOfPlayers 15 = .ok (.iconst 0, 1) := by decide +kernel
theorem dX3_isSetOfPlayers_16 : decode cX3_isSetOfPlayers 16 = .ok (.ireturn, 1) := by decide +kernel
set_option maxRecDepth 20000 in
theorem ggX3_isWinning_X4_at : GoodIn wsX3_isWinning wsX4_at := goodIn_r _ [7, 8, 22] (by decide +kernel) (by decide +kernel)
set_option maxRecDepth 20000 in
theorem gX3_isWinning_X4_at : GoodIn wsX3_isWinning (wsV RX3 87 RX4 yX4_at wsX4_at) := goodIn_app (goodIn_of _ (by decide +kernel)) ggX3_isWinning_X4_at
theorem dX3_isWinning_0 : decode cX3_isWinning 0 = .ok (.aload_n 0, 1) := by decide +kernel
theorem dX3_isWinning_1 : decode cX3_isWinning 1 = .ok (.getfield 20, 3) := by decide +kernel
theorem dX3_isWinning_4 : decode cX3_isWinning 4 = .ok (.iload_n 1, 1) := by decide +kernel
theorem dX3_isWinning_5 : decode cX3_isWinning 5 = .ok (.invokevirtual 87, 3) := by decide +kernel
theorem dX3_isWinning_8 : decode cX3_isWinning 8 = .ok (.aload_n 0, 1) := by decide +kernel
theorem dX3_isWinning_9 : decode cX3_isWinning 9 = .ok (.getfield 50, 3) := by decide +kernel
theorem dX3_isWinning_12 : decode cX3_isWinning 12 = .ok (.if_icmp .lt 7, 3) := by decide +kernel
theorem dX3_isWinning_15 : decode cX3_isWinning 15 = .ok (.iconst 1, 1) := by decide +kernel
theorem dX3_isWinning_16 : decode cX3_isWinning 16 = .ok (.goto 4, 3) := by decide +kernel
theorem dX3_isWinning_19 : decode cX3_isWinning 19 = .ok (.iconst 0, 1) := by decide +kernel
theorem dX3_isWinning_20 : decode cX3_isWinning 20 = .ok (.ireturn, 1) := by decide +kernel
set_option maxRecDepth 20000 in
theorem ggX3_playerCount_J6_bitCount_0f7a4 : GoodIn wsX3_playerCount wsJ6_bitCount_0f7a4 := goodIn_r _ [5, 6, 7, 8] (by decide +kernel) (by decide +kernel)
set_option maxRecDepth 20000 in
theorem gX3_playerCount_J6_bitCount_0f7a4 : GoodIn wsX3_playerCount (va_wsS RX3 103 yJ6_bitCount_0f7a4 wsJ6_bitCount_0f7a4) := goodIn_app (goodIn_of _ (by decide +kernel)) ggX3_playerCount_J6_bitCount_0f7a4
theorem dX3_playerCount_0 : decode cX3_playerCount 0 = .ok (.aload_n 0, 1) := by decide +kernel
theorem dX3_playerCount_1 : decode cX3_playerCount 1 = .ok (.getfield 44, 3) := by decide +kernel
theorem dX3_playerCount_4 : decode cX3_playerCount 4 = .ok (.invokestatic 103, 3) := by decide +kernel
theorem dX3_playerCount_7 : decode cX3_playerCount 7 = .ok (.ireturn, 1) := by decide +kernel
set_option maxRecDepth 20000 in
theorem ggX3_dummies_X7_contains : GoodIn wsX3_dummies wsX7_contains := goodIn_r _ [5] (by decide +kernel) (by decide +kernel)
set_option maxRecDepth 20000 in
theorem gX3_dummies_X7_contains_n114 : GoodIn wsX3_dummies (wsX7_contains) := ggX3_dummies_X7_contains
set_option maxRecDepth 20000 in
theorem ggX3_dummies_X4_at : GoodIn wsX3_dummies wsX4_at := goodIn_r _ [10, 11, 25] (by decide +kernel) (by decide +kernel)
set_option maxRecDepth 20000 in
theorem gX3_dummies_X4_at : GoodIn wsX3_dummies (wsV RX3 87 RX4 yX4_at wsX4_at) := goodIn_app (goodIn_of _ (by decide +kernel)) ggX3_dummies_X4_at
theorem dX3_dummies_0 : decode cX3_dummies 0 = .ok (.iconst 0, 1) := by decide +kernel
theorem dX3_dummies_1 : decode cX3_dummies 1 = .ok (.istore_n 1, 1) := by decide +kernel
theorem dX3_dummies_2 : decode cX3_dummies 2 = .ok (.iconst 0, 1) := by decide +kernel
theorem dX3_dummies_3 : decode cX3_dummies 3 = .ok (.istore_n 2, 1) := by decide +kernel
theorem dX3_dummies_4 : decode cX3_dummies 4 = .ok (.iload_n 2, 1) := by decide +kernel
theorem dX3_dummies_5 : decode cX3_dummies 5 = .ok (.bipush 8, 2) := by decide +kernel
theorem dX3_dummies_7 : decode cX3_dummies 7 = .ok (.if_icmp .ge 37, 3) := by decide +kernel
theorem dX3_dummies_10 : decode cX3_dummies 10 = .ok (.aload_n 0, 1) := by decide +kernel
theorem dX3_dummies_11 : decode cX3_dummies 11 = .ok (.getfield 44, 3) := by decide +kernel
theorem dX3_dummies_14 : decode cX3_dummies 14 = .ok (.iload_n 2, 1) := by decide +kernel
theorem dX3_dummies_15 : decode cX3_dummies 15 = .ok (.invokestatic 114, 3) := by decide +kernel
theorem dX3_dummies_18 : decode cX3_dummies 18 = .ok (.ifCond .eq 20, 3) := by decide +kernel
theorem dX3_dummies_21 : decode cX3_dummies 21 = .ok (.aload_n 0, 1) := by decide +kernel
theorem dX3_dummies_22 : decode cX3_dummies 22 = .ok (.getfield 26, 3) := by decide +kernel
theorem dX3_dummies_25 : decode cX3_dummies 25 = .ok (.iload_n 2, 1) := by decide +kernel
theorem dX3_dummies_26 : decode cX3_dummies 26 = .ok (.invokevirtual 87, 3) := by decide +kernel
theorem dX3_dummies_29 : decode cX3_dummies 29 = .ok (.ifCond .ne 9, 3) := by decide +kernel
theorem dX3_dummies_32 : decode cX3_dummies 32 = .ok (.iload_n 1, 1) := by decide +kernel
theorem dX3_dummies_33 : decode cX3_dummies 33 = .ok (.iconst 1, 1) := by decide +kernel
theorem dX3_dummies_34 : decode cX3_dummies 34 = .ok (.iload_n 2, 1) := by decide +kernel
theorem dX3_dummies_35 : decode cX3_dummies 35 = .ok (.ishl, 1) := by decide +kernel
theorem dX3_dummies_36 : decode cX3_dummies 36 = .ok (.ior, 1) := by decide +kernel
theorem dX3_dummies_37 : decode cX3_dummies 37 = .ok (.istore_n 1, 1) := by decide +kernel
theorem dX3_dummies_38 : decode cX3_dummies 38 = .ok (.iinc 2 1, 3) := by decide +kernel
theorem dX3_dummies_41 : decode cX3_dummies 41 = .ok (.goto (-37), 3) := by decide +kernel
theorem dX3_dummies_44 : decode cX3_dummies 44 = .ok (.iload_n 1, 1) := by decide +kernel
theorem dX3_dummies_45 : decode cX3_dummies 45 = .ok (.ireturn, 1) := by decide +kernel
theorem dX3_needed_0 : decode cX3_needed 0 = .ok (.aload_n 0, 1) := by decide +kernel
theorem dX3_needed_1 : decode cX3_needed 1 = .ok (.getfield 58, 3) := by decide +kernel
theorem dX3_needed_4 : decode cX3_needed 4 = .ok (.ifCond .le 10, 3) := by decide +kernel
theorem dX3_needed_7 : decode cX3_needed 7 = .ok (.aload_n 0, 1) := by decide +kernel
theorem dX3_needed_8 : decode cX3_needed 8 = .ok (.getfield 61, 3) := by decide +kernel
theorem dX3_needed_11 : decode cX3_needed 11 = .ok (.goto 4, 3) := by decide +kernel
theorem dX3_needed_14 : decode cX3_needed 14 = .ok (.iconst 0, 1) := by decide +kernel
theorem dX3_needed_15 : decode cX3_needed 15 = .ok (.ireturn, 1) := by decide +kernel
set_option maxRecDepth 20000 in
theorem ggX3_memberValue_X4_at : GoodIn wsX3_memberValue wsX4_at := goodIn_r _ [7, 8, 37] (by decide +kernel) (by decide +kernel)
set_option maxRecDepth 20000 in
theorem gX3_memberValue_X4_at : GoodIn wsX3_memberValue (wsV RX3 87 RX4 yX4_at wsX4_at) := goodIn_app (goodIn_of _ (by decide +kernel)) ggX3_memberValue_X4_at
set_option maxRecDepth 20000 in
theorem ggX3_memberValue_X3_dummies : GoodIn wsX3_memberValue wsX3_dummies := goodIn_r _ [13, 14, 1, 15, 16, 17, 3, 4, 5, 6, 7, 8, 24, 25, 26, 27, 28, 29, 30, 31, 32, 33, 34, 35, 36, 37] (by decide +kernel) (by decide +kernel)
set_option maxRecDepth 20000 in
theorem gX3_memberValue_X3_dummies : GoodIn wsX3_memberValue (wsV RX3 121 RX3 yX3_dummies wsX3_dummies) := goodIn_app (goodIn_of _ (by decide +kernel)) ggX3_memberValue_X3_dummies
set_option maxRecDepth 20000 in
theorem ggX3_memberValue_X7_contains : GoodIn wsX3_memberValue wsX7_contains := goodIn_r _ [17] (by decide +kernel) (by decide +kernel)
set_option maxRecDepth 20000 in
theorem gX3_memberValue_X7_contains_n114 : GoodIn wsX3_memberValue (wsX7_contains) := ggX3_memberValue_X7_contains
set_option maxRecDepth 20000 in
theorem ggX3_memberValue_X3_needed : GoodIn wsX3_memberValue wsX3_needed := goodIn_r _ [21, 22, 23, 24, 25, 26, 27, 28, 29, 30, 31, 32, 33, 34, 35, 36] (by decide +kernel) (by decide +kernel)
set_option maxRecDepth 20000 in
theorem gX3_memberValue_X3_needed : GoodIn wsX3_memberValue (wsV RX3 124 RX3 yX3_needed wsX3_needed) := goodIn_app (goodIn_of _ (by decide +kernel)) ggX3_memberValue_X3_needed
theorem dX3_memberValue_0 : decode cX3_memberValue 0 = .ok (.iload_n 2, 1) := by decide +kernel
theorem dX3_memberValue_1 : decode cX3_memberValue 1 = .ok (.tableswitch 62 4 6 #[27, 36, 45], 27) := by decide +kernel
theorem dX3_memberValue_28 : decode cX3_memberValue 28 = .ok (.aload_n 0, 1) := by decide +kernel
theorem dX3_memberValue_29 : decode cX3_memberValue 29 = .ok (.getfield 26, 3) := by decide +kernel
theorem dX3_memberValue_32 : decode cX3_memberValue 32 = .ok (.iload_n 1, 1) := by decide +kernel
theorem dX3_memberValue_33 : decode cX3_memberValue 33 = .ok (.invokevirtual 87, 3) := by decide +kernel
theorem dX3_memberValue_36 : decode cX3_memberValue 36 = .ok (.ireturn, 1) := by decide +kernel
theorem dX3_memberValue_37 : decode cX3_memberValue 37 = .ok (.aload_n 0, 1) := by decide +kernel
theorem dX3_memberValue_38 : decode cX3_memberValue 38 = .ok (.getfield 29, 3) := by decide +kernel
theorem dX3_memberValue_41 : decode cX3_memberValue 41 = .ok (.iload_n 1, 1) := by decide +kernel
theorem dX3_memberValue_42 : decode cX3_memberValue 42 = .ok (.invokevirtual 87, 3) := by decide +kernel
theorem dX3_memberValue_45 : decode cX3_memberValue 45 = .ok (.ireturn, 1) := by decide +kernel
theorem dX3_memberValue_46 : decode cX3_memberValue 46 = .ok (.aload_n 0, 1) := by decide +kernel
theorem dX3_memberValue_47 : decode cX3_memberValue 47 = .ok (.invokevirtual 121, 3) := by decide +kernel
theorem dX3_memberValue_50 : decode cX3_memberValue 50 = .ok (.iload_n 1, 1) := by decide +kernel
theorem dX3_memberValue_51 : decode cX3_memberValue 51 = .ok (.invokestatic 114, 3) := by decide +kernel
theorem dX3_memberValue_54 : decode cX3_memberValue 54 = .ok (.ifCond .eq 7, 3) := by decide +kernel
theorem dX3_memberValue_57 : decode cX3_memberValue 57 = .ok (.iconst 1, 1) := by decide +kernel
theorem dX3_memberValue_58 : decode cX3_memberValue 58 = .ok (.goto 4, 3) := by decide +kernel
theorem dX3_memberValue_61 : decode cX3_memberValue 61 = .ok (.iconst 0, 1) := by decide +kernel
theorem dX3_memberValue_62 : decode cX3_memberValue 62 = .ok (.ireturn, 1) := by decide +kernel
theorem dX3_memberValue_63 : decode cX3_memberValue 63 = .ok (.aload_n 0, 1) := by decide +kernel
theorem dX3_memberValue_64 : decode cX3_memberValue 64 = .ok (.invokevirtual 124, 3) := by decide +kernel
theorem dX3_memberValue_67 : decode cX3_memberValue 67 = .ok (.iload_n 1, 1) := by decide +kernel
theorem dX3_memberValue_68 : decode cX3_memberValue 68 = .ok (.invokestatic 114, 3) := by decide +kernel
theorem dX3_memberValue_71 : decode cX3_memberValue 71 = .ok (.ifCond .eq 7, 3) := by decide +kernel
theorem dX3_memberValue_74 : decode cX3_memberValue 74 = .ok (.iconst 1, 1) := by decide +kernel
theorem dX3_memberValue_75 : decode cX3_memberValue 75 = .ok (.goto 4, 3) := by decide +kernel
theorem dX3_memberValue_78 : decode cX3_memberValue 78 = .ok (.iconst 0, 1) := by decide +kernel
theorem dX3_memberValue_79 : decode cX3_memberValue 79 = .ok (.ireturn, 1) := by decide +kernel
set_option maxRecDepth 20000 in
theorem ggX3_wholeValue_X3_dummies : GoodIn wsX3_wholeValue wsX3_dummies := goodIn_r _ [8, 9, 10, 11, 12, 13, 14, 15, 16, 17, 18, 19, 25, 26, 27, 28, 29, 30, 31, 32, 33, 34, 35, 36, 37, 38] (by decide +kernel) (by decide +kernel)
set_option maxRecDepth 20000 in
theorem gX3_wholeValue_X3_dummies : GoodIn wsX3_wholeValue (wsV RX3 121 RX3 yX3_dummies wsX3_dummies) := goodIn_app (goodIn_of _ (by decide +kernel)) ggX3_wholeValue_X3_dummies
set_option maxRecDepth 20000 in
theorem ggX3_wholeValue_X3_needed : GoodIn wsX3_wholeValue wsX3_needed := goodIn_r _ [23, 1, 24, 25, 26, 27, 28, 29, 30, 31, 32, 33, 34, 35, 36, 37] (by decide +kernel) (by decide +kernel)
set_option maxRecDepth 20000 in
theorem gX3_wholeValue_X3_needed : GoodIn wsX3_wholeValue (wsV RX3 124 RX3 yX3_needed wsX3_needed) := goodIn_app (goodIn_of _ (by decide +kernel)) ggX3_wholeValue_X3_needed
theorem dX3_wholeValue_0 : decode cX3_wholeValue 0 = .ok (.iload_n 1, 1) := by decide +kernel
theorem dX3_wholeValue_1 : decode cX3_wholeValue 1 = .ok (.tableswitch 51 5 8 #[31, 36, 41, 46], 31) := by decide +kernel
theorem dX3_wholeValue_32 : decode cX3_wholeValue 32 = .ok (.aload_n 0, 1) := by decide +kernel
theorem dX3_wholeValue_33 : decode cX3_wholeValue 33 = .ok (.getfield 58, 3) := by decide +kernel
theorem dX3_wholeValue_36 : decode cX3_wholeValue 36 = .ok (.ireturn, 1) := by decide +kernel
theorem dX3_wholeValue_37 : decode cX3_wholeValue 37 = .ok (.aload_n 0, 1) := by decide +kernel
theorem dX3_wholeValue_38 : decode cX3_wholeValue 38 = .ok (.getfield 64, 3) := by decide +kernel
theorem dX3_wholeValue_41 : decode cX3_wholeValue 41 = .ok (.ireturn, 1) := by decide +kernel
theorem dX3_wholeValue_42 : decode cX3_wholeValue 42 = .ok (.aload_n 0, 1) := by decide +kernel
theorem dX3_wholeValue_43 : decode cX3_wholeValue 43 = .ok (.getfield 67, 3) := by decide +kernel
theorem dX3_wholeValue_46 : decode cX3_wholeValue 46 = .ok (.ireturn, 1) := by decide +kernel
theorem dX3_wholeValue_47 : decode cX3_wholeValue 47 = .ok (.aload_n 0, 1) := by decide +kernel
theorem dX3_wholeValue_48 : decode cX3_wholeValue 48 = .ok (.invokevirtual 121, 3) := by decide +kernel
theorem dX3_wholeValue_51 : decode cX3_wholeValue 51 = .ok (.ireturn, 1) := by decide +kernel
theorem dX3_wholeValue_52 : decode cX3_wholeValue 52 = .ok (.aload_n 0, 1) := by decide +kernel
theorem dX3_wholeValue_53 : decode cX3_wholeValue 53 = .ok (.invokevirtual 124, 3) := by decide +kernel
theorem dX3_wholeValue_56 : decode cX3_wholeValue 56 = .ok (.ireturn, 1) := by decide +kernel
set_option maxRecDepth 20000 in
theorem ggX3_shareOf_X4_at : GoodIn wsX3_shareOf wsX4_at := goodIn_r _ [7, 8, 22] (by decide +kernel) (by decide +kernel)
set_option maxRecDepth 20000 in
theorem gX3_shareOf_X4_at : GoodIn wsX3_shareOf (wsV RX3 87 RX4 yX4_at wsX4_at) := goodIn_app (goodIn_of _ (by decide +kernel)) ggX3_shareOf_X4_at
theorem dX3_shareOf_0 : decode cX3_shareOf 0 = .ok (.aload_n 0, 1) := by decide +kernel
theorem dX3_shareOf_1 : decode cX3_shareOf 1 = .ok (.getfield 67, 3) := by decide +kernel
theorem dX3_shareOf_4 : decode cX3_shareOf 4 = .ok (.ifCond .ne 7, 3) := by decide +kernel
theorem dX3_shareOf_7 : decode cX3_shareOf 7 = .ok (.fconst 0, 1) := by decide +kernel
theorem dX3_shareOf_8 : decode cX3_shareOf 8 = .ok (.goto 18, 3) := by decide +kernel
theorem dX3_shareOf_11 : decode cX3_shareOf 11 = .ok (.aload_n 0, 1) := by decide +kernel
theorem dX3_shareOf_12 : decode cX3_shareOf 12 = .ok (.getfield 26, 3) := by decide +kernel
theorem dX3_shareOf_15 : decode cX3_shareOf 15 = .ok (.iload_n 1, 1) := by decide +kernel
theorem dX3_shareOf_16 : decode cX3_shareOf 16 = .ok (.invokevirtual 87, 3) := by decide +kernel
theorem dX3_shareOf_19 : decode cX3_shareOf 19 = .ok (.i2f, 1) := by decide +kernel
theorem dX3_shareOf_20 : decode cX3_shareOf 20 = .ok (.aload_n 0, 1) := by decide +kernel
theorem dX3_shareOf_21 : decode cX3_shareOf 21 = .ok (.getfield 67, 3) := by decide +kernel
theorem dX3_shareOf_24 : decode cX3_shareOf 24 = .ok (.i2f, 1) := by decide +kernel
theorem dX3_shareOf_25 : decode cX3_shareOf 25 = .ok (.fdiv, 1) := by decide +kernel
theorem dX3_shareOf_26 : decode cX3_shareOf 26 = .ok (.freturn, 1) := by decide +kernel
set_option maxRecDepth 20000 in
theorem ggX3_partOf_X3_playerCount : GoodIn wsX3_partOf wsX3_playerCount := goodIn_r _ [6, 7, 8, 9, 10, 11, 12, 13, 14, 25, 26, 27, 28, 29, 30, 31, 32, 33, 34, 35, 36, 37] (by decide +kernel) (by decide +kernel)
set_option maxRecDepth 20000 in
theorem gX3_partOf_X3_playerCount : GoodIn wsX3_partOf (wsV RX3 111 RX3 yX3_playerCount wsX3_playerCount) := goodIn_app (goodIn_of _ (by decide +kernel)) ggX3_partOf_X3_playerCount
set_option maxRecDepth 20000 in
theorem ggX3_partOf_X7_factorial : GoodIn wsX3_partOf wsX7_factorial := goodIn_r _ [17, 18] (by decide +kernel) (by decide +kernel)
set_option maxRecDepth 20000 in
theorem gX3_partOf_X7_factorial_n108 : GoodIn wsX3_partOf (wsX7_factorial) := ggX3_partOf_X7_factorial
set_option maxRecDepth 20000 in
theorem ggX3_partOf_X4_at : GoodIn wsX3_partOf wsX4_at := goodIn_r _ [23, 24, 38] (by decide +kernel) (by decide +kernel)
set_option maxRecDepth 20000 in
theorem gX3_partOf_X4_at : GoodIn wsX3_partOf (wsV RX3 87 RX4 yX4_at wsX4_at) := goodIn_app (goodIn_of _ (by decide +kernel)) ggX3_partOf_X4_at
theorem dX3_partOf_0 : decode cX3_partOf 0 = .ok (.aload_n 0, 1) := by decide +kernel
theorem dX3_partOf_1 : decode cX3_partOf 1 = .ok (.invokevirtual 111, 3) := by decide +kernel
theorem dX3_partOf_4 : decode cX3_partOf 4 = .ok (.invokestatic 108, 3) := by decide +kernel
theorem dX3_partOf_7 : decode cX3_partOf 7 = .ok (.istore_n 2, 1) := by decide +kernel
theorem dX3_partOf_8 : decode cX3_partOf 8 = .ok (.iload_n 2, 1) := by decide +kernel
theorem dX3_partOf_9 : decode cX3_partOf 9 = .ok (.ifCond .ne 7, 3) := by decide +kernel
theorem dX3_partOf_12 : decode cX3_partOf 12 = .ok (.dconst 0, 1) := by decide +kernel
theorem dX3_partOf_13 : decode cX3_partOf 13 = .ok (.goto 15, 3) := by decide +kernel
theorem dX3_partOf_16 : decode cX3_partOf 16 = .ok (.aload_n 0, 1) := by decide +kernel
theorem dX3_partOf_17 : decode cX3_partOf 17 = .ok (.getfield 29, 3) := by decide +kernel
theorem dX3_partOf_20 : decode cX3_partOf 20 = .ok (.iload_n 1, 1) := by decide +kernel
theorem dX3_partOf_21 : decode cX3_partOf 21 = .ok (.invokevirtual 87, 3) := by decide +kernel
theorem dX3_partOf_24 : decode cX3_partOf 24 = .ok (.i2d, 1) := by decide +kernel
theorem dX3_partOf_25 : decode cX3_partOf 25 = .ok (.iload_n 2, 1) := by decide +kernel
theorem dX3_partOf_26 : decode cX3_partOf 26 = .ok (.i2d, 1) := by decide +kernel
theorem dX3_partOf_27 : decode cX3_partOf 27 = .ok (.ddiv, 1) := by decide +kernel
theorem dX3_partOf_28 : decode cX3_partOf 28 = .ok (.dreturn, 1) := by decide +kernel
theorem dX4_init_0 : decode cX4_init 0 = .ok (.aload_n 0, 1) := by decide +kernel
theorem dX4_init_1 : decode cX4_init 1 = .ok (.invokespecial 1, 3) := by decide +kernel
theorem dX4_init_4 : decode cX4_init 4 = .ok (.aload_n 0, 1) := by decide +kernel
theorem dX4_init_5 : decode cX4_init 5 = .ok (.iload_n 1, 1) := by decide +kernel
theorem dX4_init_6 : decode cX4_init 6 = .ok (.ifCond .ge 7, 3) := by decide +kernel
theorem dX4_init_9 : decode cX4_init 9 = .ok (.iconst 0, 1) := by decide +kernel
theorem dX4_init_10 : decode cX4_init 10 = .ok (.goto 4, 3) := by decide +kernel
theorem dX4_init_13 : decode cX4_init 13 = .ok (.iload_n 1, 1) := by decide +kernel
theorem dX4_init_14 : decode cX4_init 14 = .ok (.newarray .int, 2) := by decide +kernel
theorem dX4_init_16 : decode cX4_init 16 = .ok (.putfield 7, 3) := by decide +kernel
theorem dX4_init_19 : decode cX4_init 19 = .ok (.return_, 1) := by decide +kernel
theorem dX4_at_0 : decode cX4_at 0 = .ok (.iload_n 1, 1) := by decide +kernel
theorem dX4_at_1 : decode cX4_at 1 = .ok (.ifCond .lt 21, 3) := by decide +kernel
theorem dX4_at_4 : decode cX4_at 4 = .ok (.iload_n 1, 1) := by decide +kernel
theorem dX4_at_5 : decode cX4_at 5 = .ok (.aload_n 0, 1) := by decide +kernel
theorem dX4_at_6 : decode cX4_at 6 = .ok (.getfield 7, 3) := by decide +kernel
theorem dX4_at_9 : decode cX4_at 9 = .ok (.arraylength, 1) := by decide +kernel
theorem dX4_at_10 : decode cX4_at 10 = .ok (.if_icmp .ge 12, 3) := by decide +kernel
theorem dX4_at_13 : decode cX4_at 13 = .ok (.aload_n 0, 1) := by decide +kernel
theorem dX4_at_14 : decode cX4_at 14 = .ok (.getfield 7, 3) := by decide +kernel
theorem dX4_at_17 : decode cX4_at 17 = .ok (.iload_n 1, 1) := by decide +kernel
theorem dX4_at_18 : decode cX4_at 18 = .ok (.iaload, 1) := by decide +kernel
theorem dX4_at_19 : decode cX4_at 19 = .ok (.goto 4, 3) := by decide +kernel
theorem dX4_at_22 : decode cX4_at 22 = .ok (.iconst 0, 1) := by decide +kernel
theorem dX4_at_23 : decode cX4_at 23 = .ok (.ireturn, 1) := by decide +kernel
theorem dX4_put_0 : decode cX4_put 0 = .ok (.iload_n 1, 1) := by decide +kernel
theorem dX4_put_1 : decode cX4_put 1 = .ok (.ifCond .lt 19, 3) := by decide +kernel
theorem dX4_put_4 : decode cX4_put 4 = .ok (.iload_n 1, 1) := by decide +kernel
theorem dX4_put_5 : decode cX4_put 5 = .ok (.aload_n 0, 1) := by decide +kernel
theorem dX4_put_6 : decode cX4_put 6 = .ok (.getfield 7, 3) := by decide +kernel
theorem dX4_put_9 : decode cX4_put 9 = .ok (.arraylength, 1) := by decide +kernel
theorem dX4_put_10 : decode cX4_put 10 = .ok (.if_icmp .ge 10, 3) := by decide +kernel
theorem dX4_put_13 : decode cX4_put 13 = .ok (.aload_n 0, 1) := by decide +kernel
theorem dX4_put_14 : decode cX4_put 14 = .ok (.getfield 7, 3) := by decide +kernel
theorem dX4_put_17 : decode cX4_put 17 = .ok (.iload_n 1, 1) := by decide +kernel
theorem dX4_put_18 : decode cX4_put 18 = .ok (.iload_n 2, 1) := by decide +kernel
theorem dX4_put_19 : decode cX4_put 19 = .ok (.iastore, 1) := by decide +kernel
theorem dX4_put_20 : decode cX4_put 20 = .ok (.return_, 1) := by decide +kernel
theorem dX4_raise_0 : decode cX4_raise 0 = .ok (.iload_n 1, 1) := by decide +kernel
theorem dX4_raise_1 : decode cX4_raise 1 = .ok (.ifCond .lt 22, 3) := by decide +kernel
theorem dX4_raise_4 : decode cX4_raise 4 = .ok (.iload_n 1, 1) := by decide +kernel
theorem dX4_raise_5 : decode cX4_raise 5 = .ok (.aload_n 0, 1) := by decide +kernel
theorem dX4_raise_6 : decode cX4_raise 6 = .ok (.getfield 7, 3) := by decide +kernel
theorem dX4_raise_9 : decode cX4_raise 9 = .ok (.arraylength, 1) := by decide +kernel
theorem dX4_raise_10 : decode cX4_raise 10 = .ok (.if_icmp .ge 13, 3) := by decide +kernel
theorem dX4_raise_13 : decode cX4_raise 13 = .ok (.aload_n 0, 1) := by decide +kernel
theorem dX4_raise_14 : decode cX4_raise 14 = .ok (.getfield 7, 3) := by decide +kernel
theorem dX4_raise_17 : decode cX4_raise 17 = .ok (.iload_n 1, 1) := by decide +kernel
theorem dX4_raise_18 : decode cX4_raise 18 = .ok (.dup2, 1) := by decide +kernel
theorem dX4_raise_19 : decode cX4_raise 19 = .ok (.iaload, 1) := by decide +kernel
theorem dX4_raise_20 : decode cX4_raise 20 = .ok (.iload_n 2, 1) := by decide +kernel
theorem dX4_raise_21 : decode cX4_raise 21 = .ok (.iadd, 1) := by decide +kernel
theorem dX4_raise_22 : decode cX4_raise 22 = .ok (.iastore, 1) := by decide +kernel
theorem dX4_raise_23 : decode cX4_raise 23 = .ok (.return_, 1) := by decide +kernel
theorem dX4_empty_0 : decode cX4_empty 0 = .ok (.iconst 0, 1) := by decide +kernel
theorem dX4_empty_1 : decode cX4_empty 1 = .ok (.istore_n 1, 1) := by decide +kernel
theorem dX4_empty_2 : decode cX4_empty 2 = .ok (.iload_n 1, 1) := by decide +kernel
theorem dX4_empty_3 : decode cX4_empty 3 = .ok (.aload_n 0, 1) := by decide +kernel
theorem dX4_empty_4 : decode cX4_empty 4 = .ok (.getfield 7, 3) := by decide +kernel
theorem dX4_empty_7 : decode cX4_empty 7 = .ok (.arraylength, 1) := by decide +kernel
theorem dX4_empty_8 : decode cX4_empty 8 = .ok (.if_icmp .ge 16, 3) := by decide +kernel
theorem dX4_empty_11 : decode cX4_empty 11 = .ok (.aload_n 0, 1) := by decide +kernel
theorem dX4_empty_12 : decode cX4_empty 12 = .ok (.getfield 7, 3) := by decide +kernel
theorem dX4_empty_15 : decode cX4_empty 15 = .ok (.iload_n 1, 1) := by decide +kernel
theorem dX4_empty_16 : decode cX4_empty 16 = .ok (.iconst 0, 1) := by decide +kernel
theorem dX4_empty_17 : decode cX4_empty 17 = .ok (.iastore, 1) := by decide +kernel
theorem dX4_empty_18 : decode cX4_empty 18 = .ok (.iinc 1 1, 3) := by decide +kernel
theorem dX4_empty_21 : decode cX4_empty 21 = .ok (.goto (-19), 3) := by decide +kernel
theorem dX4_empty_24 : decode cX4_empty 24 = .ok (.return_, 1) := by decide +kernel
set_option maxRecDepth 20000 in
theorem ggX4_copyFrom_X4_at : GoodIn wsX4_copyFrom wsX4_at := goodIn_r _ [6, 1, 7] (by decide +kernel) (by decide +kernel)
set_option maxRecDepth 20000 in
theorem gX4_copyFrom_X4_at : GoodIn wsX4_copyFrom (wsV RX4 13 RX4 yX4_at wsX4_at) := goodIn_app (goodIn_of _ (by decide +kernel)) ggX4_copyFrom_X4_at
theorem dX4_copyFrom_0 : decode cX4_copyFrom 0 = .ok (.iconst 0, 1) := by decide +kernel
theorem dX4_copyFrom_1 : decode cX4_copyFrom 1 = .ok (.istore_n 2, 1) := by decide +kernel
theorem dX4_copyFrom_2 : decode cX4_copyFrom 2 = .ok (.iload_n 2, 1) := by decide +kernel
theorem dX4_copyFrom_3 : decode cX4_copyFrom 3 = .ok (.aload_n 0, 1) := by decide +kernel
theorem dX4_copyFrom_4 : decode cX4_copyFrom 4 = .ok (.getfield 7, 3) := by decide +kernel
theorem dX4_copyFrom_7 : decode cX4_copyFrom 7 = .ok (.arraylength, 1) := by decide +kernel
theorem dX4_copyFrom_8 : decode cX4_copyFrom 8 = .ok (.if_icmp .ge 20, 3) := by decide +kernel
theorem dX4_copyFrom_11 : decode cX4_copyFrom 11 = .ok (.aload_n 0, 1) := by decide +kernel
theorem dX4_copyFrom_12 : decode cX4_copyFrom 12 = .ok (.getfield 7, 3) := by decide +kernel
theorem dX4_copyFrom_15 : decode cX4_copyFrom 15 = .ok (.iload_n 2, 1) := by decide +kernel
theorem dX4_copyFrom_16 : decode cX4_copyFrom 16 = .ok (.aload_n 1, 1) := by decide +kernel
theorem dX4_copyFrom_17 : decode cX4_copyFrom 17 = .ok (.iload_n 2, 1) := by decide +kernel
theorem dX4_copyFrom_18 : decode cX4_copyFrom 18 = .ok (.invokevirtual 13, 3) := by decide +kernel
theorem dX4_copyFrom_21 : decode cX4_copyFrom 21 = .ok (.iastore, 1) := by decide +kernel
theorem dX4_copyFrom_22 : decode cX4_copyFrom 22 = .ok (.iinc 2 1, 3) := by decide +kernel
theorem dX4_copyFrom_25 : decode cX4_copyFrom 25 = .ok (.goto (-23), 3) := by decide +kernel
theorem dX4_copyFrom_28 : decode cX4_copyFrom 28 = .ok (.return_, 1) := by decide +kernel
set_option maxRecDepth 20000 in
theorem ggX5_init_X6_init : GoodIn wsX5_init wsX6_init := goodIn_r _ [9, 10, 2, 3, 11, 12, 13, 14, 15, 16, 17, 18, 19, 20, 21, 22, 23, 24, 35, 28, 29, 30, 31, 32, 33, 34] (by decide +kernel) (by decide +kernel)
set_option maxRecDepth 20000 in
theorem gX5_init_X6_init_n17 : GoodIn wsX5_init (wsX6_init) := ggX5_init_X6_init
theorem dX5_init_0 : decode cX5_init 0 = .ok (.aload_n 0, 1) := by decide +kernel
theorem dX5_init_1 : decode cX5_init 1 = .ok (.invokespecial 3, 3) := by decide +kernel
theorem dX5_init_4 : decode cX5_init 4 = .ok (.aload_n 0, 1) := by decide +kernel
theorem dX5_init_5 : decode cX5_init 5 = .ok (.iconst 4, 1) := by decide +kernel
theorem dX5_init_6 : decode cX5_init 6 = .ok (.anewarray 9, 3) := by decide +kernel
theorem dX5_init_9 : decode cX5_init 9 = .ok (.putfield 11, 3) := by decide +kernel
theorem dX5_init_12 : decode cX5_init 12 = .ok (.iconst 0, 1) := by decide +kernel
theorem dX5_init_13 : decode cX5_init 13 = .ok (.istore_n 1, 1) := by decide +kernel
theorem dX5_init_14 : decode cX5_init 14 = .ok (.iload_n 1, 1) := by decide +kernel
theorem dX5_init_15 : decode cX5_init 15 = .ok (.aload_n 0, 1) := by decide +kernel
theorem dX5_init_16 : decode cX5_init 16 = .ok (.getfield 11, 3) := by decide +kernel
theorem dX5_init_19 : decode cX5_init 19 = .ok (.arraylength, 1) := by decide +kernel
theorem dX5_init_20 : decode cX5_init 20 = .ok (.if_icmp .ge 22, 3) := by decide +kernel
theorem dX5_init_23 : decode cX5_init 23 = .ok (.aload_n 0, 1) := by decide +kernel
theorem dX5_init_24 : decode cX5_init 24 = .ok (.getfield 11, 3) := by decide +kernel
theorem dX5_init_27 : decode cX5_init 27 = .ok (.iload_n 1, 1) := by decide +kernel
theorem dX5_init_28 : decode cX5_init 28 = .ok (.new 9, 3) := by decide +kernel
theorem dX5_init_31 : decode cX5_init 31 = .ok (.dup, 1) := by decide +kernel
theorem dX5_init_32 : decode cX5_init 32 = .ok (.invokespecial 17, 3) := by decide +kernel
theorem dX5_init_35 : decode cX5_init 35 = .ok (.aastore, 1) := by decide +kernel
theorem dX5_init_36 : decode cX5_init 36 = .ok (.iinc 1 1, 3) := by decide +kernel
theorem dX5_init_39 : decode cX5_init 39 = .ok (.goto (-25), 3) := by decide +kernel
theorem dX5_init_42 : decode cX5_init 42 = .ok (.return_, 1) := by decide +kernel
set_option maxRecDepth 20000 in
theorem ggX5_keep_X5_slotAt : GoodIn wsX5_keep wsX5_slotAt := goodIn_r _ [11, 12, 35, 36, 37] (by decide +kernel) (by decide +kernel)
set_option maxRecDepth 20000 in
theorem gX5_keep_X5_slotAt : GoodIn wsX5_keep (wsV RX5 22 RX5 yX5_slotAt wsX5_slotAt) := goodIn_app (goodIn_of _ (by decide +kernel)) ggX5_keep_X5_slotAt
set_option maxRecDepth 20000 in
theorem ggX5_keep_X6_copyFrom : GoodIn wsX5_keep wsX6_copyFrom := goodIn_r _ [17, 18, 19, 20, 21, 22, 23, 24, 25, 26, 27, 28, 29, 30, 31, 32, 33, 34, 38, 39, 40, 41, 42, 43, 44, 45] (by decide +kernel) (by decide +kernel)
set_option maxRecDepth 20000 in
theorem gX5_keep_X6_copyFrom : GoodIn wsX5_keep (wsV RX5 26 RX6 yX6_copyFrom wsX6_copyFrom) := goodIn_app (goodIn_of _ (by decide +kernel)) ggX5_keep_X6_copyFrom
theorem dX5_keep_0 : decode cX5_keep 0 = .ok (.aload_n 0, 1) := by decide +kernel
theorem dX5_keep_1 : decode cX5_keep 1 = .ok (.aload_n 0, 1) := by decide +kernel
theorem dX5_keep_2 : decode cX5_keep 2 = .ok (.getfield 18, 3) := by decide +kernel
theorem dX5_keep_5 : decode cX5_keep 5 = .ok (.invokevirtual 22, 3) := by decide +kernel
theorem dX5_keep_8 : decode cX5_keep 8 = .ok (.astore_n 2, 1) := by decide +kernel
theorem dX5_keep_9 : decode cX5_keep 9 = .ok (.aload_n 2, 1) := by decide +kernel
theorem dX5_keep_10 : decode cX5_keep 10 = .ok (.ifnull 8, 3) := by decide +kernel
theorem dX5_keep_13 : decode cX5_keep 13 = .ok (.aload_n 2, 1) := by decide +kernel
theorem dX5_keep_14 : decode cX5_keep 14 = .ok (.aload_n 1, 1) := by decide +kernel
theorem dX5_keep_15 : decode cX5_keep 15 = .ok (.invokevirtual 26, 3) := by decide +kernel
theorem dX5_keep_18 : decode cX5_keep 18 = .ok (.aload_n 0, 1) := by decide +kernel
theorem dX5_keep_19 : decode cX5_keep 19 = .ok (.aload_n 0, 1) := by decide +kernel
theorem dX5_keep_20 : decode cX5_keep 20 = .ok (.getfield 18, 3) := by decide +kernel
theorem dX5_keep_23 : decode cX5_keep 23 = .ok (.iconst 1, 1) := by decide +kernel
theorem dX5_keep_24 : decode cX5_keep 24 = .ok (.iadd, 1) := by decide +kernel
theorem dX5_keep_25 : decode cX5_keep 25 = .ok (.iconst 4, 1) := by decide +kernel
theorem dX5_keep_26 : decode cX5_keep 26 = .ok (.irem, 1) := by decide +kernel
theorem dX5_keep_27 : decode cX5_keep 27 = .ok (.putfield 18, 3) := by decide +kernel
theorem dX5_keep_30 : decode cX5_keep 30 = .ok (.aload_n 0, 1) := by decide +kernel
theorem dX5_keep_31 : decode cX5_keep 31 = .ok (.aload_n 0, 1) := by decide +kernel
