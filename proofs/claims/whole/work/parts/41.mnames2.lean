theorem dX8_isValue_31 : decode cX8_isValue 31 = .ok (.sipush 255, 3) := by decide +kernel
theorem dX8_isValue_34 : decode cX8_isValue 34 = .ok (.invokestatic 93, 3) := by decide +kernel
theorem dX8_isValue_37 : decode cX8_isValue 37 = .ok (.ireturn, 1) := by decide +kernel
set_option maxRecDepth 20000 in
theorem ggX8_addRule_X8_in : GoodIn wsX8_addRule wsX8_in := goodIn_r _ [5] (by decide +kernel) (by decide +kernel)
set_option maxRecDepth 20000 in
theorem gX8_addRule_X8_in : GoodIn wsX8_addRule (va_wsS RX8 93 yX8_in wsX8_in) := goodIn_app (goodIn_of _ (by decide +kernel)) ggX8_addRule_X8_in
set_option maxRecDepth 20000 in
theorem ggX8_addRule_X8_isValue : GoodIn wsX8_addRule wsX8_isValue := goodIn_r _ [8, 2, 3, 4, 5] (by decide +kernel) (by decide +kernel)
set_option maxRecDepth 20000 in
theorem gX8_addRule_X8_isValue : GoodIn wsX8_addRule (va_wsS RX8 109 yX8_isValue wsX8_isValue) := goodIn_app (goodIn_of _ (by decide +kernel)) ggX8_addRule_X8_isValue
set_option maxRecDepth 20000 in
theorem ggX8_addRule_X8_throwsAt : GoodIn wsX8_addRule wsX8_throwsAt := goodIn_r _ [12, 13, 21, 22, 23, 24, 25, 26, 27, 28, 29, 30, 31, 32, 33, 34] (by decide +kernel) (by decide +kernel)
set_option maxRecDepth 20000 in
theorem gX8_addRule_X8_throwsAt : GoodIn wsX8_addRule (wsV RX8 97 RX8 yX8_throwsAt wsX8_throwsAt) := goodIn_app (goodIn_of _ (by decide +kernel)) ggX8_addRule_X8_throwsAt
set_option maxRecDepth 20000 in
theorem ggX8_addRule_X8_saves : GoodIn wsX8_addRule wsX8_saves := goodIn_r _ [17, 18, 19, 20, 1, 21, 22, 23, 24, 25, 26, 27, 28, 29, 30, 31, 32, 33, 34] (by decide +kernel) (by decide +kernel)
set_option maxRecDepth 20000 in
theorem gX8_addRule_X8_saves : GoodIn wsX8_addRule (wsV RX8 100 RX8 yX8_saves wsX8_saves) := goodIn_app (goodIn_of _ (by decide +kernel)) ggX8_addRule_X8_saves
theorem dX8_addRule_0 : decode cX8_addRule 0 = .ok (.aload_n 0, 1) := by decide +kernel
theorem dX8_addRule_1 : decode cX8_addRule 1 = .ok (.iload_n 1, 1) := by decide +kernel
theorem dX8_addRule_2 : decode cX8_addRule 2 = .ok (.iconst 0, 1) := by decide +kernel
theorem dX8_addRule_3 : decode cX8_addRule 3 = .ok (.iconst 2, 1) := by decide +kernel
theorem dX8_addRule_4 : decode cX8_addRule 4 = .ok (.invokestatic 93, 3) := by decide +kernel
theorem dX8_addRule_7 : decode cX8_addRule 7 = .ok (.ifCond .eq 11, 3) := by decide +kernel
theorem dX8_addRule_10 : decode cX8_addRule 10 = .ok (.iload_n 1, 1) := by decide +kernel
theorem dX8_addRule_11 : decode cX8_addRule 11 = .ok (.iload_n 2, 1) := by decide +kernel
theorem dX8_addRule_12 : decode cX8_addRule 12 = .ok (.invokestatic 109, 3) := by decide +kernel
theorem dX8_addRule_15 : decode cX8_addRule 15 = .ok (.ifCond .ne 7, 3) := by decide +kernel
theorem dX8_addRule_18 : decode cX8_addRule 18 = .ok (.iconst 1, 1) := by decide +kernel
theorem dX8_addRule_19 : decode cX8_addRule 19 = .ok (.goto 18, 3) := by decide +kernel
theorem dX8_addRule_22 : decode cX8_addRule 22 = .ok (.aload_n 0, 1) := by decide +kernel
theorem dX8_addRule_23 : decode cX8_addRule 23 = .ok (.getfield 7, 3) := by decide +kernel
theorem dX8_addRule_26 : decode cX8_addRule 26 = .ok (.iconst 2, 1) := by decide +kernel
theorem dX8_addRule_27 : decode cX8_addRule 27 = .ok (.iaload, 1) := by decide +kernel
theorem dX8_addRule_28 : decode cX8_addRule 28 = .ok (.iconst 4, 1) := by decide +kernel
theorem dX8_addRule_29 : decode cX8_addRule 29 = .ok (.if_icmp .ne 7, 3) := by decide +kernel
theorem dX8_addRule_32 : decode cX8_addRule 32 = .ok (.iconst 2, 1) := by decide +kernel
theorem dX8_addRule_33 : decode cX8_addRule 33 = .ok (.goto 4, 3) := by decide +kernel
theorem dX8_addRule_36 : decode cX8_addRule 36 = .ok (.iconst 0, 1) := by decide +kernel
theorem dX8_addRule_37 : decode cX8_addRule 37 = .ok (.invokevirtual 97, 3) := by decide +kernel
theorem dX8_addRule_40 : decode cX8_addRule 40 = .ok (.ifCond .eq 5, 3) := by decide +kernel
theorem dX8_addRule_43 : decode cX8_addRule 43 = .ok (.iconst 0, 1) := by decide +kernel
theorem dX8_addRule_44 : decode cX8_addRule 44 = .ok (.ireturn, 1) := by decide +kernel
theorem dX8_addRule_45 : decode cX8_addRule 45 = .ok (.aload_n 0, 1) := by decide +kernel
theorem dX8_addRule_46 : decode cX8_addRule 46 = .ok (.invokevirtual 100, 3) := by decide +kernel
theorem dX8_addRule_49 : decode cX8_addRule 49 = .ok (.aload_n 0, 1) := by decide +kernel
theorem dX8_addRule_50 : decode cX8_addRule 50 = .ok (.getfield 7, 3) := by decide +kernel
theorem dX8_addRule_53 : decode cX8_addRule 53 = .ok (.bipush 19, 2) := by decide +kernel
theorem dX8_addRule_55 : decode cX8_addRule 55 = .ok (.aload_n 0, 1) := by decide +kernel
theorem dX8_addRule_56 : decode cX8_addRule 56 = .ok (.getfield 7, 3) := by decide +kernel
theorem dX8_addRule_59 : decode cX8_addRule 59 = .ok (.iconst 2, 1) := by decide +kernel
theorem dX8_addRule_60 : decode cX8_addRule 60 = .ok (.iaload, 1) := by decide +kernel
theorem dX8_addRule_61 : decode cX8_addRule 61 = .ok (.iadd, 1) := by decide +kernel
theorem dX8_addRule_62 : decode cX8_addRule 62 = .ok (.iload_n 1, 1) := by decide +kernel
theorem dX8_addRule_63 : decode cX8_addRule 63 = .ok (.iastore, 1) := by decide +kernel
theorem dX8_addRule_64 : decode cX8_addRule 64 = .ok (.aload_n 0, 1) := by decide +kernel
theorem dX8_addRule_65 : decode cX8_addRule 65 = .ok (.getfield 7, 3) := by decide +kernel
theorem dX8_addRule_68 : decode cX8_addRule 68 = .ok (.bipush 23, 2) := by decide +kernel
theorem dX8_addRule_70 : decode cX8_addRule 70 = .ok (.aload_n 0, 1) := by decide +kernel
theorem dX8_addRule_71 : decode cX8_addRule 71 = .ok (.getfield 7, 3) := by decide +kernel
theorem dX8_addRule_74 : decode cX8_addRule 74 = .ok (.iconst 2, 1) := by decide +kernel
theorem dX8_addRule_75 : decode cX8_addRule 75 = .ok (.iaload, 1) := by decide +kernel
theorem dX8_addRule_76 : decode cX8_addRule 76 = .ok (.iadd, 1) := by decide +kernel
theorem dX8_addRule_77 : decode cX8_addRule 77 = .ok (.iload_n 2, 1) := by decide +kernel
theorem dX8_addRule_78 : decode cX8_addRule 78 = .ok (.iastore, 1) := by decide +kernel
theorem dX8_addRule_79 : decode cX8_addRule 79 = .ok (.aload_n 0, 1) := by decide +kernel
theorem dX8_addRule_80 : decode cX8_addRule 80 = .ok (.getfield 7, 3) := by decide +kernel
theorem dX8_addRule_83 : decode cX8_addRule 83 = .ok (.iconst 2, 1) := by decide +kernel
theorem dX8_addRule_84 : decode cX8_addRule 84 = .ok (.dup2, 1) := by decide +kernel
theorem dX8_addRule_85 : decode cX8_addRule 85 = .ok (.iaload, 1) := by decide +kernel
theorem dX8_addRule_86 : decode cX8_addRule 86 = .ok (.iconst 1, 1) := by decide +kernel
theorem dX8_addRule_87 : decode cX8_addRule 87 = .ok (.iadd, 1) := by decide +kernel
theorem dX8_addRule_88 : decode cX8_addRule 88 = .ok (.iastore, 1) := by decide +kernel
theorem dX8_addRule_89 : decode cX8_addRule 89 = .ok (.aload_n 0, 1) := by decide +kernel
theorem dX8_addRule_90 : decode cX8_addRule 90 = .ok (.getfield 7, 3) := by decide +kernel
theorem dX8_addRule_93 : decode cX8_addRule 93 = .ok (.iconst 2, 1) := by decide +kernel
theorem dX8_addRule_94 : decode cX8_addRule 94 = .ok (.iaload, 1) := by decide +kernel
theorem dX8_addRule_95 : decode cX8_addRule 95 = .ok (.iconst 1, 1) := by decide +kernel
theorem dX8_addRule_96 : decode cX8_addRule 96 = .ok (.isub, 1) := by decide +kernel
theorem dX8_addRule_97 : decode cX8_addRule 97 = .ok (.ireturn, 1) := by decide +kernel
theorem dX8_isRule_0 : decode cX8_isRule 0 = .ok (.iload_n 1, 1) := by decide +kernel
theorem dX8_isRule_1 : decode cX8_isRule 1 = .ok (.ifCond .lt 17, 3) := by decide +kernel
theorem dX8_isRule_4 : decode cX8_isRule 4 = .ok (.iload_n 1, 1) := by decide +kernel
theorem dX8_isRule_5 : decode cX8_isRule 5 = .ok (.aload_n 0, 1) := by decide +kernel
theorem dX8_isRule_6 : decode cX8_isRule 6 = .ok (.getfield 7, 3) := by decide +kernel
theorem dX8_isRule_9 : decode cX8_isRule 9 = .ok (.iconst 2, 1) := by decide +kernel
theorem dX8_isRule_10 : decode cX8_isRule 10 = .ok (.iaload, 1) := by decide +kernel
theorem dX8_isRule_11 : decode cX8_isRule 11 = .ok (.if_icmp .ge 7, 3) := by decide +kernel
theorem dX8_isRule_14 : decode cX8_isRule 14 = .ok (.iconst 1, 1) := by decide +kernel
theorem dX8_isRule_15 : decode cX8_isRule 15 = .ok (.goto 4, 3) := by decide +kernel
theorem dX8_isRule_18 : decode cX8_isRule 18 = .ok (.iconst 0, 1) := by decide +kernel
theorem dX8_isRule_19 : decode cX8_isRule 19 = .ok (.ireturn, 1) := by decide +kernel
set_option maxRecDepth 20000 in
theorem ggX8_dropRule_X8_isRule : GoodIn wsX8_dropRule wsX8_isRule := goodIn_r _ [6, 1, 19, 20, 21, 22, 23, 24, 25, 26, 27, 28, 29, 30, 31, 32] (by decide +kernel) (by decide +kernel)
set_option maxRecDepth 20000 in
theorem gX8_dropRule_X8_isRule : GoodIn wsX8_dropRule (wsV RX8 112 RX8 yX8_isRule wsX8_isRule) := goodIn_app (goodIn_of _ (by decide +kernel)) ggX8_dropRule_X8_isRule
set_option maxRecDepth 20000 in
theorem ggX8_dropRule_X8_throwsAt : GoodIn wsX8_dropRule wsX8_throwsAt := goodIn_r _ [10, 11, 19, 20, 21, 22, 23, 24, 25, 26, 27, 28, 29, 30, 31, 32] (by decide +kernel) (by decide +kernel)
set_option maxRecDepth 20000 in
theorem gX8_dropRule_X8_throwsAt : GoodIn wsX8_dropRule (wsV RX8 97 RX8 yX8_throwsAt wsX8_throwsAt) := goodIn_app (goodIn_of _ (by decide +kernel)) ggX8_dropRule_X8_throwsAt
set_option maxRecDepth 20000 in
theorem ggX8_dropRule_X8_saves : GoodIn wsX8_dropRule wsX8_saves := goodIn_r _ [15, 16, 17, 18, 1, 19, 20, 21, 22, 23, 24, 25, 26, 27, 28, 29, 30, 31, 32] (by decide +kernel) (by decide +kernel)
set_option maxRecDepth 20000 in
theorem gX8_dropRule_X8_saves : GoodIn wsX8_dropRule (wsV RX8 100 RX8 yX8_saves wsX8_saves) := goodIn_app (goodIn_of _ (by decide +kernel)) ggX8_dropRule_X8_saves
theorem dX8_dropRule_0 : decode cX8_dropRule 0 = .ok (.aload_n 0, 1) := by decide +kernel
theorem dX8_dropRule_1 : decode cX8_dropRule 1 = .ok (.aload_n 0, 1) := by decide +kernel
theorem dX8_dropRule_2 : decode cX8_dropRule 2 = .ok (.iload_n 1, 1) := by decide +kernel
theorem dX8_dropRule_3 : decode cX8_dropRule 3 = .ok (.invokevirtual 112, 3) := by decide +kernel
theorem dX8_dropRule_6 : decode cX8_dropRule 6 = .ok (.ifCond .eq 7, 3) := by decide +kernel
theorem dX8_dropRule_9 : decode cX8_dropRule 9 = .ok (.iconst 0, 1) := by decide +kernel
theorem dX8_dropRule_10 : decode cX8_dropRule 10 = .ok (.goto 4, 3) := by decide +kernel
theorem dX8_dropRule_13 : decode cX8_dropRule 13 = .ok (.iconst 1, 1) := by decide +kernel
theorem dX8_dropRule_14 : decode cX8_dropRule 14 = .ok (.invokevirtual 97, 3) := by decide +kernel
theorem dX8_dropRule_17 : decode cX8_dropRule 17 = .ok (.ifCond .eq 5, 3) := by decide +kernel
theorem dX8_dropRule_20 : decode cX8_dropRule 20 = .ok (.iconst 0, 1) := by decide +kernel
theorem dX8_dropRule_21 : decode cX8_dropRule 21 = .ok (.ireturn, 1) := by decide +kernel
theorem dX8_dropRule_22 : decode cX8_dropRule 22 = .ok (.aload_n 0, 1) := by decide +kernel
theorem dX8_dropRule_23 : decode cX8_dropRule 23 = .ok (.invokevirtual 100, 3) := by decide +kernel
theorem dX8_dropRule_26 : decode cX8_dropRule 26 = .ok (.aload_n 0, 1) := by decide +kernel
theorem dX8_dropRule_27 : decode cX8_dropRule 27 = .ok (.getfield 7, 3) := by decide +kernel
theorem dX8_dropRule_30 : decode cX8_dropRule 30 = .ok (.iconst 2, 1) := by decide +kernel
theorem dX8_dropRule_31 : decode cX8_dropRule 31 = .ok (.dup2, 1) := by decide +kernel
theorem dX8_dropRule_32 : decode cX8_dropRule 32 = .ok (.iaload, 1) := by decide +kernel
theorem dX8_dropRule_33 : decode cX8_dropRule 33 = .ok (.iconst 1, 1) := by decide +kernel
theorem dX8_dropRule_34 : decode cX8_dropRule 34 = .ok (.isub, 1) := by decide +kernel
theorem dX8_dropRule_35 : decode cX8_dropRule 35 = .ok (.iastore, 1) := by decide +kernel
theorem dX8_dropRule_36 : decode cX8_dropRule 36 = .ok (.iload_n 1, 1) := by decide +kernel
theorem dX8_dropRule_37 : decode cX8_dropRule 37 = .ok (.istore_n 2, 1) := by decide +kernel
theorem dX8_dropRule_38 : decode cX8_dropRule 38 = .ok (.iload_n 2, 1) := by decide +kernel
theorem dX8_dropRule_39 : decode cX8_dropRule 39 = .ok (.aload_n 0, 1) := by decide +kernel
theorem dX8_dropRule_40 : decode cX8_dropRule 40 = .ok (.getfield 7, 3) := by decide +kernel
theorem dX8_dropRule_43 : decode cX8_dropRule 43 = .ok (.iconst 2, 1) := by decide +kernel
theorem dX8_dropRule_44 : decode cX8_dropRule 44 = .ok (.iaload, 1) := by decide +kernel
theorem dX8_dropRule_45 : decode cX8_dropRule 45 = .ok (.if_icmp .ge 49, 3) := by decide +kernel
theorem dX8_dropRule_48 : decode cX8_dropRule 48 = .ok (.aload_n 0, 1) := by decide +kernel
theorem dX8_dropRule_49 : decode cX8_dropRule 49 = .ok (.getfield 7, 3) := by decide +kernel
theorem dX8_dropRule_52 : decode cX8_dropRule 52 = .ok (.bipush 19, 2) := by decide +kernel
theorem dX8_dropRule_54 : decode cX8_dropRule 54 = .ok (.iload_n 2, 1) := by decide +kernel
theorem dX8_dropRule_55 : decode cX8_dropRule 55 = .ok (.iadd, 1) := by decide +kernel
theorem dX8_dropRule_56 : decode cX8_dropRule 56 = .ok (.aload_n 0, 1) := by decide +kernel
theorem dX8_dropRule_57 : decode cX8_dropRule 57 = .ok (.getfield 7, 3) := by decide +kernel
theorem dX8_dropRule_60 : decode cX8_dropRule 60 = .ok (.bipush 19, 2) := by decide +kernel
theorem dX8_dropRule_62 : decode cX8_dropRule 62 = .ok (.iload_n 2, 1) := by decide +kernel
theorem dX8_dropRule_63 : decode cX8_dropRule 63 = .ok (.iadd, 1) := by decide +kernel
theorem dX8_dropRule_64 : decode cX8_dropRule 64 = .ok (.iconst 1, 1) := by decide +kernel
theorem dX8_dropRule_65 : decode cX8_dropRule 65 = .ok (.iadd, 1) := by decide +kernel
theorem dX8_dropRule_66 : decode cX8_dropRule 66 = .ok (.iaload, 1) := by decide +kernel
theorem dX8_dropRule_67 : decode cX8_dropRule 67 = .ok (.iastore, 1) := by decide +kernel
theorem dX8_dropRule_68 : decode cX8_dropRule 68 = .ok (.aload_n 0, 1) := by decide +kernel
theorem dX8_dropRule_69 : decode cX8_dropRule 69 = .ok (.getfield 7, 3) := by decide +kernel
theorem dX8_dropRule_72 : decode cX8_dropRule 72 = .ok (.bipush 23, 2) := by decide +kernel
theorem dX8_dropRule_74 : decode cX8_dropRule 74 = .ok (.iload_n 2, 1) := by decide +kernel
theorem dX8_dropRule_75 : decode cX8_dropRule 75 = .ok (.iadd, 1) := by decide +kernel
theorem dX8_dropRule_76 : decode cX8_dropRule 76 = .ok (.aload_n 0, 1) := by decide +kernel
theorem dX8_dropRule_77 : decode cX8_dropRule 77 = .ok (.getfield 7, 3) := by decide +kernel
theorem dX8_dropRule_80 : decode cX8_dropRule 80 = .ok (.bipush 23, 2) := by decide +kernel
theorem dX8_dropRule_82 : decode cX8_dropRule 82 = .ok (.iload_n 2, 1) := by decide +kernel
theorem dX8_dropRule_83 : decode cX8_dropRule 83 = .ok (.iadd, 1) := by decide +kernel
theorem dX8_dropRule_84 : decode cX8_dropRule 84 = .ok (.iconst 1, 1) := by decide +kernel
theorem dX8_dropRule_85 : decode cX8_dropRule 85 = .ok (.iadd, 1) := by decide +kernel
theorem dX8_dropRule_86 : decode cX8_dropRule 86 = .ok (.iaload, 1) := by decide +kernel
theorem dX8_dropRule_87 : decode cX8_dropRule 87 = .ok (.iastore, 1) := by decide +kernel
theorem dX8_dropRule_88 : decode cX8_dropRule 88 = .ok (.iinc 2 1, 3) := by decide +kernel
theorem dX8_dropRule_91 : decode cX8_dropRule 91 = .ok (.goto (-53), 3) := by decide +kernel
theorem dX8_dropRule_94 : decode cX8_dropRule 94 = .ok (.aload_n 0, 1) := by decide +kernel
theorem dX8_dropRule_95 : decode cX8_dropRule 95 = .ok (.getfield 7, 3) := by decide +kernel
theorem dX8_dropRule_98 : decode cX8_dropRule 98 = .ok (.iconst 2, 1) := by decide +kernel
theorem dX8_dropRule_99 : decode cX8_dropRule 99 = .ok (.iaload, 1) := by decide +kernel
theorem dX8_dropRule_100 : decode cX8_dropRule 100 = .ok (.ireturn, 1) := by decide +kernel
set_option maxRecDepth 20000 in
theorem ggX8_memberOf_X8_followers : GoodIn wsX8_memberOf wsX8_followers := goodIn_r _ [6, 1, 58, 59, 60, 61, 62, 63, 64, 65, 66, 67, 68, 69, 70, 71] (by decide +kernel) (by decide +kernel)
set_option maxRecDepth 20000 in
theorem gX8_memberOf_X8_followers : GoodIn wsX8_memberOf (wsV RX8 103 RX8 yX8_followers wsX8_followers) := goodIn_app (goodIn_of _ (by decide +kernel)) ggX8_memberOf_X8_followers
set_option maxRecDepth 20000 in
theorem ggX8_memberOf_X8_blocOf : GoodIn wsX8_memberOf wsX8_blocOf := goodIn_r _ [10, 11, 12, 13, 5, 14, 1, 15, 16, 17, 18, 19, 20, 21, 22, 23, 24, 25, 26, 27, 28, 29, 58, 59, 60, 61, 62, 63, 64, 65, 66, 67, 68, 69, 70, 71] (by decide +kernel) (by decide +kernel)
set_option maxRecDepth 20000 in
theorem gX8_memberOf_X8_blocOf : GoodIn wsX8_memberOf (wsV RX8 106 RX8 yX8_blocOf wsX8_blocOf) := goodIn_app (goodIn_of _ (by decide +kernel)) ggX8_memberOf_X8_blocOf
set_option maxRecDepth 20000 in
theorem ggX8_memberOf_X8_swings : GoodIn wsX8_memberOf wsX8_swings := goodIn_r _ [33, 34, 23, 24, 5, 25, 58, 59, 60, 61, 62, 63, 64, 65, 66, 67, 68, 69, 70, 71] (by decide +kernel) (by decide +kernel)
set_option maxRecDepth 20000 in
theorem gX8_memberOf_X8_swings : GoodIn wsX8_memberOf (wsV RX8 78 RX8 yX8_swings wsX8_swings) := goodIn_app (goodIn_of _ (by decide +kernel)) ggX8_memberOf_X8_swings
set_option maxRecDepth 20000 in
theorem ggX8_memberOf_X8_orders : GoodIn wsX8_memberOf wsX8_orders := goodIn_r _ [38, 39, 34, 40, 41, 5, 42, 23, 24, 25, 43, 44, 45, 58, 59, 60, 61, 62, 63, 64, 65, 66, 67, 68, 69, 70, 71] (by decide +kernel) (by decide +kernel)
set_option maxRecDepth 20000 in
theorem gX8_memberOf_X8_orders : GoodIn wsX8_memberOf (wsV RX8 90 RX8 yX8_orders wsX8_orders) := goodIn_app (goodIn_of _ (by decide +kernel)) ggX8_memberOf_X8_orders
set_option maxRecDepth 20000 in
theorem ggX8_memberOf_X8_dummies : GoodIn wsX8_memberOf wsX8_dummies := goodIn_r _ [49, 1, 11, 12, 13, 5, 14, 15, 16, 17, 18, 30, 31, 32, 33, 34, 23, 24, 25, 58, 59, 60, 61, 62, 63, 64, 65, 66, 67, 68, 69, 70, 71] (by decide +kernel) (by decide +kernel)
set_option maxRecDepth 20000 in
theorem gX8_memberOf_X8_dummies : GoodIn wsX8_memberOf (wsV RX8 115 RX8 yX8_dummies wsX8_dummies) := goodIn_app (goodIn_of _ (by decide +kernel)) ggX8_memberOf_X8_dummies
set_option maxRecDepth 20000 in
theorem ggX8_memberOf_X8_needed : GoodIn wsX8_memberOf wsX8_needed := goodIn_r _ [53, 1, 11, 12, 13, 5, 14, 15, 16, 17, 18, 54, 55, 56, 57, 34, 39, 23, 24, 25, 58, 59, 60, 61, 62, 63, 64, 65, 66, 67, 68, 69, 70, 71] (by decide +kernel) (by decide +kernel)
set_option maxRecDepth 20000 in
theorem gX8_memberOf_X8_needed : GoodIn wsX8_memberOf (wsV RX8 118 RX8 yX8_needed wsX8_needed) := goodIn_app (goodIn_of _ (by decide +kernel)) ggX8_memberOf_X8_needed
theorem dX8_memberOf_0 : decode cX8_memberOf 0 = .ok (.iload_n 2, 1) := by decide +kernel
theorem dX8_memberOf_1 : decode cX8_memberOf 1 = .ok (.tableswitch 95 0 6 #[43, 52, 62, 68, 74, 80, 86], 43) := by decide +kernel
theorem dX8_memberOf_44 : decode cX8_memberOf 44 = .ok (.aload_n 0, 1) := by decide +kernel
theorem dX8_memberOf_45 : decode cX8_memberOf 45 = .ok (.getfield 7, 3) := by decide +kernel
theorem dX8_memberOf_48 : decode cX8_memberOf 48 = .ok (.iconst 3, 1) := by decide +kernel
theorem dX8_memberOf_49 : decode cX8_memberOf 49 = .ok (.iload_n 1, 1) := by decide +kernel
theorem dX8_memberOf_50 : decode cX8_memberOf 50 = .ok (.iadd, 1) := by decide +kernel
theorem dX8_memberOf_51 : decode cX8_memberOf 51 = .ok (.iaload, 1) := by decide +kernel
theorem dX8_memberOf_52 : decode cX8_memberOf 52 = .ok (.ireturn, 1) := by decide +kernel
theorem dX8_memberOf_53 : decode cX8_memberOf 53 = .ok (.aload_n 0, 1) := by decide +kernel
theorem dX8_memberOf_54 : decode cX8_memberOf 54 = .ok (.getfield 7, 3) := by decide +kernel
theorem dX8_memberOf_57 : decode cX8_memberOf 57 = .ok (.bipush 11, 2) := by decide +kernel
theorem dX8_memberOf_59 : decode cX8_memberOf 59 = .ok (.iload_n 1, 1) := by decide +kernel
theorem dX8_memberOf_60 : decode cX8_memberOf 60 = .ok (.iadd, 1) := by decide +kernel
theorem dX8_memberOf_61 : decode cX8_memberOf 61 = .ok (.iaload, 1) := by decide +kernel
theorem dX8_memberOf_62 : decode cX8_memberOf 62 = .ok (.ireturn, 1) := by decide +kernel
theorem dX8_memberOf_63 : decode cX8_memberOf 63 = .ok (.aload_n 0, 1) := by decide +kernel
theorem dX8_memberOf_64 : decode cX8_memberOf 64 = .ok (.iload_n 1, 1) := by decide +kernel
theorem dX8_memberOf_65 : decode cX8_memberOf 65 = .ok (.invokevirtual 103, 3) := by decide +kernel
theorem dX8_memberOf_68 : decode cX8_memberOf 68 = .ok (.ireturn, 1) := by decide +kernel
theorem dX8_memberOf_69 : decode cX8_memberOf 69 = .ok (.aload_n 0, 1) := by decide +kernel
theorem dX8_memberOf_70 : decode cX8_memberOf 70 = .ok (.iload_n 1, 1) := by decide +kernel
theorem dX8_memberOf_71 : decode cX8_memberOf 71 = .ok (.invokevirtual 106, 3) := by decide +kernel
theorem dX8_memberOf_74 : decode cX8_memberOf 74 = .ok (.ireturn, 1) := by decide +kernel
theorem dX8_memberOf_75 : decode cX8_memberOf 75 = .ok (.aload_n 0, 1) := by decide +kernel
theorem dX8_memberOf_76 : decode cX8_memberOf 76 = .ok (.iload_n 1, 1) := by decide +kernel
theorem dX8_memberOf_77 : decode cX8_memberOf 77 = .ok (.invokevirtual 78, 3) := by decide +kernel
theorem dX8_memberOf_80 : decode cX8_memberOf 80 = .ok (.ireturn, 1) := by decide +kernel
theorem dX8_memberOf_81 : decode cX8_memberOf 81 = .ok (.aload_n 0, 1) := by decide +kernel
theorem dX8_memberOf_82 : decode cX8_memberOf 82 = .ok (.iload_n 1, 1) := by decide +kernel
theorem dX8_memberOf_83 : decode cX8_memberOf 83 = .ok (.invokevirtual 90, 3) := by decide +kernel
theorem dX8_memberOf_86 : decode cX8_memberOf 86 = .ok (.ireturn, 1) := by decide +kernel
theorem dX8_memberOf_87 : decode cX8_memberOf 87 = .ok (.aload_n 0, 1) := by decide +kernel
theorem dX8_memberOf_88 : decode cX8_memberOf 88 = .ok (.invokevirtual 115, 3) := by decide +kernel
theorem dX8_memberOf_91 : decode cX8_memberOf 91 = .ok (.iload_n 1, 1) := by decide +kernel
theorem dX8_memberOf_92 : decode cX8_memberOf 92 = .ok (.ishr, 1) := by decide +kernel
theorem dX8_memberOf_93 : decode cX8_memberOf 93 = .ok (.iconst 1, 1) := by decide +kernel
theorem dX8_memberOf_94 : decode cX8_memberOf 94 = .ok (.iand, 1) := by decide +kernel
theorem dX8_memberOf_95 : decode cX8_memberOf 95 = .ok (.ireturn, 1) := by decide +kernel
theorem dX8_memberOf_96 : decode cX8_memberOf 96 = .ok (.aload_n 0, 1) := by decide +kernel
theorem dX8_memberOf_97 : decode cX8_memberOf 97 = .ok (.invokevirtual 118, 3) := by decide +kernel
theorem dX8_memberOf_100 : decode cX8_memberOf 100 = .ok (.iload_n 1, 1) := by decide +kernel
theorem dX8_memberOf_101 : decode cX8_memberOf 101 = .ok (.ishr, 1) := by decide +kernel
theorem dX8_memberOf_102 : decode cX8_memberOf 102 = .ok (.iconst 1, 1) := by decide +kernel
theorem dX8_memberOf_103 : decode cX8_memberOf 103 = .ok (.iand, 1) := by decide +kernel
theorem dX8_memberOf_104 : decode cX8_memberOf 104 = .ok (.ireturn, 1) := by decide +kernel
set_option maxRecDepth 20000 in
theorem ggX8_member_X8_isMember : GoodIn wsX8_member wsX8_isMember := goodIn_r _ [6, 1, 86, 87, 88, 89, 90, 91, 92, 93, 94, 95, 96, 97, 98, 99] (by decide +kernel) (by decide +kernel)
set_option maxRecDepth 20000 in
theorem gX8_member_X8_isMember : GoodIn wsX8_member (wsV RX8 43 RX8 yX8_isMember wsX8_isMember) := goodIn_app (goodIn_of _ (by decide +kernel)) ggX8_member_X8_isMember
set_option maxRecDepth 20000 in
theorem ggX8_member_X8_in : GoodIn wsX8_member wsX8_in := goodIn_r _ [9] (by decide +kernel) (by decide +kernel)
set_option maxRecDepth 20000 in
theorem gX8_member_X8_in : GoodIn wsX8_member (va_wsS RX8 93 yX8_in wsX8_in) := goodIn_app (goodIn_of _ (by decide +kernel)) ggX8_member_X8_in
set_option maxRecDepth 20000 in
theorem ggX8_member_X8_throwsAt : GoodIn wsX8_member wsX8_throwsAt := goodIn_r _ [13, 14, 86, 87, 88, 89, 90, 91, 92, 93, 94, 95, 96, 97, 98, 99] (by decide +kernel) (by decide +kernel)
set_option maxRecDepth 20000 in
theorem gX8_member_X8_throwsAt : GoodIn wsX8_member (wsV RX8 97 RX8 yX8_throwsAt wsX8_throwsAt) := goodIn_app (goodIn_of _ (by decide +kernel)) ggX8_member_X8_throwsAt
set_option maxRecDepth 20000 in
theorem ggX8_member_X8_lays : GoodIn wsX8_member wsX8_lays := goodIn_r _ [18, 19, 20, 21, 22, 23, 5, 24, 1, 25, 26, 27, 28, 2, 3, 4, 6, 29, 30, 31, 32, 33, 34, 35, 36, 37, 38, 39, 40, 41, 42, 43, 44, 45, 46, 47, 48, 49, 50, 86, 87, 88, 89, 90, 91, 92, 93, 94, 95, 96, 97, 98, 99] (by decide +kernel) (by decide +kernel)
set_option maxRecDepth 20000 in
theorem gX8_member_X8_lays : GoodIn wsX8_member (wsV RX8 121 RX8 yX8_lays wsX8_lays) := goodIn_app (goodIn_of _ (by decide +kernel)) ggX8_member_X8_lays
set_option maxRecDepth 20000 in
theorem ggX8_member_X8_memberOf : GoodIn wsX8_member wsX8_memberOf := goodIn_r _ [54, 1, 55, 56, 57, 5, 58, 59, 60, 61, 62, 25, 26, 27, 28, 2, 3, 4, 6, 33, 34, 35, 36, 37, 38, 39, 40, 41, 42, 43, 63, 64, 65, 66, 20, 67, 68, 69, 70, 19, 48, 49, 50, 71, 72, 73, 74, 75, 76, 77, 78, 79, 80, 81, 82, 83, 84, 85, 86, 87, 88, 89, 90, 91, 92, 93, 94, 95, 96, 97, 98, 99] (by decide +kernel) (by decide +kernel)
set_option maxRecDepth 20000 in
theorem gX8_member_X8_memberOf : GoodIn wsX8_member (wsV RX8 125 RX8 yX8_memberOf wsX8_memberOf) := goodIn_app (goodIn_of _ (by decide +kernel)) ggX8_member_X8_memberOf
theorem dX8_member_0 : decode cX8_member 0 = .ok (.aload_n 0, 1) := by decide +kernel
theorem dX8_member_1 : decode cX8_member 1 = .ok (.aload_n 0, 1) := by decide +kernel
theorem dX8_member_2 : decode cX8_member 2 = .ok (.iload_n 1, 1) := by decide +kernel
theorem dX8_member_3 : decode cX8_member 3 = .ok (.invokevirtual 43, 3) := by decide +kernel
theorem dX8_member_6 : decode cX8_member 6 = .ok (.ifCond .ne 7, 3) := by decide +kernel
theorem dX8_member_9 : decode cX8_member 9 = .ok (.iconst 1, 1) := by decide +kernel
theorem dX8_member_10 : decode cX8_member 10 = .ok (.goto 18, 3) := by decide +kernel
theorem dX8_member_13 : decode cX8_member 13 = .ok (.iload_n 2, 1) := by decide +kernel
theorem dX8_member_14 : decode cX8_member 14 = .ok (.iconst 0, 1) := by decide +kernel
theorem dX8_member_15 : decode cX8_member 15 = .ok (.bipush 7, 2) := by decide +kernel
theorem dX8_member_17 : decode cX8_member 17 = .ok (.invokestatic 93, 3) := by decide +kernel
theorem dX8_member_20 : decode cX8_member 20 = .ok (.ifCond .eq 7, 3) := by decide +kernel
theorem dX8_member_23 : decode cX8_member 23 = .ok (.iconst 0, 1) := by decide +kernel
theorem dX8_member_24 : decode cX8_member 24 = .ok (.goto 4, 3) := by decide +kernel
theorem dX8_member_27 : decode cX8_member 27 = .ok (.iconst 2, 1) := by decide +kernel
theorem dX8_member_28 : decode cX8_member 28 = .ok (.invokevirtual 97, 3) := by decide +kernel
theorem dX8_member_31 : decode cX8_member 31 = .ok (.ifCond .eq 5, 3) := by decide +kernel
theorem dX8_member_34 : decode cX8_member 34 = .ok (.iconst 0, 1) := by decide +kernel
theorem dX8_member_35 : decode cX8_member 35 = .ok (.ireturn, 1) := by decide +kernel
theorem dX8_member_36 : decode cX8_member 36 = .ok (.aload_n 0, 1) := by decide +kernel
theorem dX8_member_37 : decode cX8_member 37 = .ok (.aload_n 0, 1) := by decide +kernel
theorem dX8_member_38 : decode cX8_member 38 = .ok (.getfield 7, 3) := by decide +kernel
theorem dX8_member_41 : decode cX8_member 41 = .ok (.iconst 1, 1) := by decide +kernel
theorem dX8_member_42 : decode cX8_member 42 = .ok (.iaload, 1) := by decide +kernel
theorem dX8_member_43 : decode cX8_member 43 = .ok (.invokevirtual 121, 3) := by decide +kernel
theorem dX8_member_46 : decode cX8_member 46 = .ok (.aload_n 0, 1) := by decide +kernel
theorem dX8_member_47 : decode cX8_member 47 = .ok (.iload_n 1, 1) := by decide +kernel
theorem dX8_member_48 : decode cX8_member 48 = .ok (.iload_n 2, 1) := by decide +kernel
theorem dX8_member_49 : decode cX8_member 49 = .ok (.invokevirtual 125, 3) := by decide +kernel
theorem dX8_member_52 : decode cX8_member 52 = .ok (.ireturn, 1) := by decide +kernel
set_option maxRecDepth 20000 in
theorem ggX8_ruleOf_X8_holds : GoodIn wsX8_ruleOf wsX8_holds := goodIn_r _ [6, 1, 7, 8, 5, 9, 10, 11, 12, 13, 14, 15, 16, 17, 18, 19, 20, 21, 22, 23, 24, 25, 26] (by decide +kernel) (by decide +kernel)
set_option maxRecDepth 20000 in
theorem gX8_ruleOf_X8_holds : GoodIn wsX8_ruleOf (wsV RX8 64 RX8 yX8_holds wsX8_holds) := goodIn_app (goodIn_of _ (by decide +kernel)) ggX8_ruleOf_X8_holds
theorem dX8_ruleOf_0 : decode cX8_ruleOf 0 = .ok (.iload_n 2, 1) := by decide +kernel
theorem dX8_ruleOf_1 : decode cX8_ruleOf 1 = .ok (.ifCond .ne 15, 3) := by decide +kernel
theorem dX8_ruleOf_4 : decode cX8_ruleOf 4 = .ok (.aload_n 0, 1) := by decide +kernel
theorem dX8_ruleOf_5 : decode cX8_ruleOf 5 = .ok (.getfield 7, 3) := by decide +kernel
theorem dX8_ruleOf_8 : decode cX8_ruleOf 8 = .ok (.bipush 19, 2) := by decide +kernel
theorem dX8_ruleOf_10 : decode cX8_ruleOf 10 = .ok (.iload_n 1, 1) := by decide +kernel
theorem dX8_ruleOf_11 : decode cX8_ruleOf 11 = .ok (.iadd, 1) := by decide +kernel
theorem dX8_ruleOf_12 : decode cX8_ruleOf 12 = .ok (.iaload, 1) := by decide +kernel
theorem dX8_ruleOf_13 : decode cX8_ruleOf 13 = .ok (.goto 43, 3) := by decide +kernel
theorem dX8_ruleOf_16 : decode cX8_ruleOf 16 = .ok (.iload_n 2, 1) := by decide +kernel
theorem dX8_ruleOf_17 : decode cX8_ruleOf 17 = .ok (.iconst 1, 1) := by decide +kernel
theorem dX8_ruleOf_18 : decode cX8_ruleOf 18 = .ok (.if_icmp .ne 15, 3) := by decide +kernel
theorem dX8_ruleOf_21 : decode cX8_ruleOf 21 = .ok (.aload_n 0, 1) := by decide +kernel
theorem dX8_ruleOf_22 : decode cX8_ruleOf 22 = .ok (.getfield 7, 3) := by decide +kernel
theorem dX8_ruleOf_25 : decode cX8_ruleOf 25 = .ok (.bipush 23, 2) := by decide +kernel
theorem dX8_ruleOf_27 : decode cX8_ruleOf 27 = .ok (.iload_n 1, 1) := by decide +kernel
theorem dX8_ruleOf_28 : decode cX8_ruleOf 28 = .ok (.iadd, 1) := by decide +kernel
theorem dX8_ruleOf_29 : decode cX8_ruleOf 29 = .ok (.iaload, 1) := by decide +kernel
theorem dX8_ruleOf_30 : decode cX8_ruleOf 30 = .ok (.goto 26, 3) := by decide +kernel
theorem dX8_ruleOf_33 : decode cX8_ruleOf 33 = .ok (.aload_n 0, 1) := by decide +kernel
theorem dX8_ruleOf_34 : decode cX8_ruleOf 34 = .ok (.iload_n 1, 1) := by decide +kernel
theorem dX8_ruleOf_35 : decode cX8_ruleOf 35 = .ok (.iconst 1, 1) := by decide +kernel
theorem dX8_ruleOf_36 : decode cX8_ruleOf 36 = .ok (.aload_n 0, 1) := by decide +kernel
theorem dX8_ruleOf_37 : decode cX8_ruleOf 37 = .ok (.getfield 7, 3) := by decide +kernel
theorem dX8_ruleOf_40 : decode cX8_ruleOf 40 = .ok (.iconst 0, 1) := by decide +kernel
theorem dX8_ruleOf_41 : decode cX8_ruleOf 41 = .ok (.iaload, 1) := by decide +kernel
theorem dX8_ruleOf_42 : decode cX8_ruleOf 42 = .ok (.ishl, 1) := by decide +kernel
theorem dX8_ruleOf_43 : decode cX8_ruleOf 43 = .ok (.iconst 1, 1) := by decide +kernel
theorem dX8_ruleOf_44 : decode cX8_ruleOf 44 = .ok (.isub, 1) := by decide +kernel
theorem dX8_ruleOf_45 : decode cX8_ruleOf 45 = .ok (.invokevirtual 64, 3) := by decide +kernel
theorem dX8_ruleOf_48 : decode cX8_ruleOf 48 = .ok (.ifCond .eq 7, 3) := by decide +kernel
theorem dX8_ruleOf_51 : decode cX8_ruleOf 51 = .ok (.iconst 1, 1) := by decide +kernel
theorem dX8_ruleOf_52 : decode cX8_ruleOf 52 = .ok (.goto 4, 3) := by decide +kernel
theorem dX8_ruleOf_55 : decode cX8_ruleOf 55 = .ok (.iconst 0, 1) := by decide +kernel
theorem dX8_ruleOf_56 : decode cX8_ruleOf 56 = .ok (.ireturn, 1) := by decide +kernel
set_option maxRecDepth 20000 in
theorem ggX8_rule_X8_isRule : GoodIn wsX8_rule wsX8_isRule := goodIn_r _ [5, 6, 29, 30, 31, 32, 33, 34, 35, 36, 37, 38, 39, 40, 41, 42] (by decide +kernel) (by decide +kernel)
set_option maxRecDepth 20000 in
theorem gX8_rule_X8_isRule : GoodIn wsX8_rule (wsV RX8 112 RX8 yX8_isRule wsX8_isRule) := goodIn_app (goodIn_of _ (by decide +kernel)) ggX8_rule_X8_isRule
set_option maxRecDepth 20000 in
theorem ggX8_rule_X8_in : GoodIn wsX8_rule wsX8_in := goodIn_r _ [9] (by decide +kernel) (by decide +kernel)
set_option maxRecDepth 20000 in
theorem gX8_rule_X8_in : GoodIn wsX8_rule (va_wsS RX8 93 yX8_in wsX8_in) := goodIn_app (goodIn_of _ (by decide +kernel)) ggX8_rule_X8_in
set_option maxRecDepth 20000 in
theorem ggX8_rule_X8_throwsAt : GoodIn wsX8_rule wsX8_throwsAt := goodIn_r _ [13, 14, 29, 30, 31, 32, 33, 34, 35, 36, 37, 38, 39, 40, 41, 42] (by decide +kernel) (by decide +kernel)
set_option maxRecDepth 20000 in
theorem gX8_rule_X8_throwsAt : GoodIn wsX8_rule (wsV RX8 97 RX8 yX8_throwsAt wsX8_throwsAt) := goodIn_app (goodIn_of _ (by decide +kernel)) ggX8_rule_X8_throwsAt
set_option maxRecDepth 20000 in
theorem ggX8_rule_X8_ruleOf : GoodIn wsX8_rule wsX8_ruleOf := goodIn_r _ [18, 6, 19, 20, 21, 4, 22, 23, 24, 25, 26, 27, 28, 29, 30, 31, 32, 33, 34, 35, 36, 37, 38, 39, 40, 41, 42] (by decide +kernel) (by decide +kernel)
set_option maxRecDepth 20000 in
theorem gX8_rule_X8_ruleOf : GoodIn wsX8_rule (wsV RX8 128 RX8 yX8_ruleOf wsX8_ruleOf) := goodIn_app (goodIn_of _ (by decide +kernel)) ggX8_rule_X8_ruleOf
theorem dX8_rule_0 : decode cX8_rule 0 = .ok (.aload_n 0, 1) := by decide +kernel
theorem dX8_rule_1 : decode cX8_rule 1 = .ok (.aload_n 0, 1) := by decide +kernel
theorem dX8_rule_2 : decode cX8_rule 2 = .ok (.iload_n 1, 1) := by decide +kernel
theorem dX8_rule_3 : decode cX8_rule 3 = .ok (.invokevirtual 112, 3) := by decide +kernel
theorem dX8_rule_6 : decode cX8_rule 6 = .ok (.ifCond .ne 7, 3) := by decide +kernel
theorem dX8_rule_9 : decode cX8_rule 9 = .ok (.iconst 1, 1) := by decide +kernel
theorem dX8_rule_10 : decode cX8_rule 10 = .ok (.goto 17, 3) := by decide +kernel
theorem dX8_rule_13 : decode cX8_rule 13 = .ok (.iload_n 2, 1) := by decide +kernel
theorem dX8_rule_14 : decode cX8_rule 14 = .ok (.iconst 0, 1) := by decide +kernel
theorem dX8_rule_15 : decode cX8_rule 15 = .ok (.iconst 2, 1) := by decide +kernel
theorem dX8_rule_16 : decode cX8_rule 16 = .ok (.invokestatic 93, 3) := by decide +kernel
theorem dX8_rule_19 : decode cX8_rule 19 = .ok (.ifCond .eq 7, 3) := by decide +kernel
theorem dX8_rule_22 : decode cX8_rule 22 = .ok (.iconst 0, 1) := by decide +kernel
theorem dX8_rule_23 : decode cX8_rule 23 = .ok (.goto 4, 3) := by decide +kernel
theorem dX8_rule_26 : decode cX8_rule 26 = .ok (.iconst 2, 1) := by decide +kernel
theorem dX8_rule_27 : decode cX8_rule 27 = .ok (.invokevirtual 97, 3) := by decide +kernel
theorem dX8_rule_30 : decode cX8_rule 30 = .ok (.ifCond .eq 7, 3) := by decide +kernel
theorem dX8_rule_33 : decode cX8_rule 33 = .ok (.iconst 0, 1) := by decide +kernel
theorem dX8_rule_34 : decode cX8_rule 34 = .ok (.goto 9, 3) := by decide +kernel
theorem dX8_rule_37 : decode cX8_rule 37 = .ok (.aload_n 0, 1) := by decide +kernel
theorem dX8_rule_38 : decode cX8_rule 38 = .ok (.iload_n 1, 1) := by decide +kernel
theorem dX8_rule_39 : decode cX8_rule 39 = .ok (.iload_n 2, 1) := by decide +kernel
theorem dX8_rule_40 : decode cX8_rule 40 = .ok (.invokevirtual 128, 3) := by decide +kernel
theorem dX8_rule_43 : decode cX8_rule 43 = .ok (.ireturn, 1) := by decide +kernel
set_option maxRecDepth 20000 in
theorem ggX8_many_X8_isLeast : GoodIn wsX8_many wsX8_isLeast := goodIn_r _ [6, 1, 7, 8, 5, 9, 10, 11, 12, 13, 14, 15, 16, 17, 18, 19, 20, 21, 22, 23] (by decide +kernel) (by decide +kernel)
set_option maxRecDepth 20000 in
theorem gX8_many_X8_isLeast : GoodIn wsX8_many (wsV RX8 131 RX8 yX8_isLeast wsX8_isLeast) := goodIn_app (goodIn_of _ (by decide +kernel)) ggX8_many_X8_isLeast
theorem dX8_many_0 : decode cX8_many 0 = .ok (.iconst 0, 1) := by decide +kernel
theorem dX8_many_1 : decode cX8_many 1 = .ok (.istore_n 2, 1) := by decide +kernel
theorem dX8_many_2 : decode cX8_many 2 = .ok (.iconst 0, 1) := by decide +kernel
theorem dX8_many_3 : decode cX8_many 3 = .ok (.istore_n 3, 1) := by decide +kernel
theorem dX8_many_4 : decode cX8_many 4 = .ok (.iload_n 3, 1) := by decide +kernel
theorem dX8_many_5 : decode cX8_many 5 = .ok (.sipush 256, 3) := by decide +kernel
theorem dX8_many_8 : decode cX8_many 8 = .ok (.if_icmp .ge 41, 3) := by decide +kernel
theorem dX8_many_11 : decode cX8_many 11 = .ok (.iload_n 2, 1) := by decide +kernel
theorem dX8_many_12 : decode cX8_many 12 = .ok (.iload_n 1, 1) := by decide +kernel
theorem dX8_many_13 : decode cX8_many 13 = .ok (.ifCond .eq 14, 3) := by decide +kernel
theorem dX8_many_16 : decode cX8_many 16 = .ok (.aload_n 0, 1) := by decide +kernel
theorem dX8_many_17 : decode cX8_many 17 = .ok (.iload_n 3, 1) := by decide +kernel
theorem dX8_many_18 : decode cX8_many 18 = .ok (.invokevirtual 131, 3) := by decide +kernel
theorem dX8_many_21 : decode cX8_many 21 = .ok (.ifCond .eq 19, 3) := by decide +kernel
theorem dX8_many_24 : decode cX8_many 24 = .ok (.goto 12, 3) := by decide +kernel
theorem dX8_many_27 : decode cX8_many 27 = .ok (.aload_n 0, 1) := by decide +kernel
theorem dX8_many_28 : decode cX8_many 28 = .ok (.getfield 19, 3) := by decide +kernel
theorem dX8_many_31 : decode cX8_many 31 = .ok (.iload_n 3, 1) := by decide +kernel
theorem dX8_many_32 : decode cX8_many 32 = .ok (.baload, 1) := by decide +kernel
theorem dX8_many_33 : decode cX8_many 33 = .ok (.ifCond .eq 7, 3) := by decide +kernel
theorem dX8_many_36 : decode cX8_many 36 = .ok (.iconst 1, 1) := by decide +kernel
theorem dX8_many_37 : decode cX8_many 37 = .ok (.goto 4, 3) := by decide +kernel
theorem dX8_many_40 : decode cX8_many 40 = .ok (.iconst 0, 1) := by decide +kernel
theorem dX8_many_41 : decode cX8_many 41 = .ok (.iadd, 1) := by decide +kernel
theorem dX8_many_42 : decode cX8_many 42 = .ok (.istore_n 2, 1) := by decide +kernel
theorem dX8_many_43 : decode cX8_many 43 = .ok (.iinc 3 1, 3) := by decide +kernel
theorem dX8_many_46 : decode cX8_many 46 = .ok (.goto (-42), 3) := by decide +kernel
theorem dX8_many_49 : decode cX8_many 49 = .ok (.iload_n 2, 1) := by decide +kernel
theorem dX8_many_50 : decode cX8_many 50 = .ok (.ireturn, 1) := by decide +kernel
theorem dX8_alikeRules_0 : decode cX8_alikeRules 0 = .ok (.iconst 0, 1) := by decide +kernel
theorem dX8_alikeRules_1 : decode cX8_alikeRules 1 = .ok (.istore_n 1, 1) := by decide +kernel
theorem dX8_alikeRules_2 : decode cX8_alikeRules 2 = .ok (.iconst 0, 1) := by decide +kernel
theorem dX8_alikeRules_3 : decode cX8_alikeRules 3 = .ok (.istore_n 2, 1) := by decide +kernel
theorem dX8_alikeRules_4 : decode cX8_alikeRules 4 = .ok (.iload_n 2, 1) := by decide +kernel
theorem dX8_alikeRules_5 : decode cX8_alikeRules 5 = .ok (.aload_n 0, 1) := by decide +kernel
theorem dX8_alikeRules_6 : decode cX8_alikeRules 6 = .ok (.getfield 7, 3) := by decide +kernel
theorem dX8_alikeRules_9 : decode cX8_alikeRules 9 = .ok (.iconst 2, 1) := by decide +kernel
theorem dX8_alikeRules_10 : decode cX8_alikeRules 10 = .ok (.iaload, 1) := by decide +kernel
theorem dX8_alikeRules_11 : decode cX8_alikeRules 11 = .ok (.if_icmp .ge 36, 3) := by decide +kernel
theorem dX8_alikeRules_14 : decode cX8_alikeRules 14 = .ok (.iload_n 1, 1) := by decide +kernel
theorem dX8_alikeRules_15 : decode cX8_alikeRules 15 = .ok (.aload_n 0, 1) := by decide +kernel
theorem dX8_alikeRules_16 : decode cX8_alikeRules 16 = .ok (.getfield 7, 3) := by decide +kernel
theorem dX8_alikeRules_19 : decode cX8_alikeRules 19 = .ok (.bipush 19, 2) := by decide +kernel
theorem dX8_alikeRules_21 : decode cX8_alikeRules 21 = .ok (.iload_n 2, 1) := by decide +kernel
theorem dX8_alikeRules_22 : decode cX8_alikeRules 22 = .ok (.iadd, 1) := by decide +kernel
theorem dX8_alikeRules_23 : decode cX8_alikeRules 23 = .ok (.iaload, 1) := by decide +kernel
theorem dX8_alikeRules_24 : decode cX8_alikeRules 24 = .ok (.aload_n 0, 1) := by decide +kernel
theorem dX8_alikeRules_25 : decode cX8_alikeRules 25 = .ok (.getfield 7, 3) := by decide +kernel
theorem dX8_alikeRules_28 : decode cX8_alikeRules 28 = .ok (.bipush 19, 2) := by decide +kernel
theorem dX8_alikeRules_30 : decode cX8_alikeRules 30 = .ok (.iaload, 1) := by decide +kernel
theorem dX8_alikeRules_31 : decode cX8_alikeRules 31 = .ok (.if_icmp .ne 7, 3) := by decide +kernel
theorem dX8_alikeRules_34 : decode cX8_alikeRules 34 = .ok (.iconst 1, 1) := by decide +kernel
theorem dX8_alikeRules_35 : decode cX8_alikeRules 35 = .ok (.goto 4, 3) := by decide +kernel
theorem dX8_alikeRules_38 : decode cX8_alikeRules 38 = .ok (.iconst 0, 1) := by decide +kernel
theorem dX8_alikeRules_39 : decode cX8_alikeRules 39 = .ok (.iadd, 1) := by decide +kernel
theorem dX8_alikeRules_40 : decode cX8_alikeRules 40 = .ok (.istore_n 1, 1) := by decide +kernel
theorem dX8_alikeRules_41 : decode cX8_alikeRules 41 = .ok (.iinc 2 1, 3) := by decide +kernel
theorem dX8_alikeRules_44 : decode cX8_alikeRules 44 = .ok (.goto (-40), 3) := by decide +kernel
theorem dX8_alikeRules_47 : decode cX8_alikeRules 47 = .ok (.iload_n 1, 1) := by decide +kernel
theorem dX8_alikeRules_48 : decode cX8_alikeRules 48 = .ok (.ireturn, 1) := by decide +kernel
set_option maxRecDepth 20000 in
theorem ggX8_wholeOf_X8_ones : GoodIn wsX8_wholeOf wsX8_ones := goodIn_r _ [7] (by decide +kernel) (by decide +kernel)
set_option maxRecDepth 20000 in
theorem gX8_wholeOf_X8_ones : GoodIn wsX8_wholeOf (va_wsS RX8 54 yX8_ones wsX8_ones) := goodIn_app (goodIn_of _ (by decide +kernel)) ggX8_wholeOf_X8_ones
set_option maxRecDepth 20000 in
theorem ggX8_wholeOf_X8_weightOf : GoodIn wsX8_wholeOf wsX8_weightOf := goodIn_r _ [11, 1, 12, 13, 6, 14, 56, 57, 58, 59, 60, 61, 62, 63, 64, 65, 66, 67, 68, 69] (by decide +kernel) (by decide +kernel)
set_option maxRecDepth 20000 in
theorem gX8_wholeOf_X8_weightOf : GoodIn wsX8_wholeOf (wsV RX8 61 RX8 yX8_weightOf wsX8_weightOf) := goodIn_app (goodIn_of _ (by decide +kernel)) ggX8_wholeOf_X8_weightOf
set_option maxRecDepth 20000 in
theorem ggX8_wholeOf_X8_many : GoodIn wsX8_wholeOf wsX8_many := goodIn_r _ [18, 19, 20, 21, 22, 6, 23, 12, 13, 14, 56, 57, 58, 59, 60, 61, 62, 63, 64, 65, 66, 67, 68, 69] (by decide +kernel) (by decide +kernel)
set_option maxRecDepth 20000 in
theorem gX8_wholeOf_X8_many : GoodIn wsX8_wholeOf (wsV RX8 134 RX8 yX8_many wsX8_many) := goodIn_app (goodIn_of _ (by decide +kernel)) ggX8_wholeOf_X8_many
set_option maxRecDepth 20000 in
theorem ggX8_wholeOf_X8_allSwings : GoodIn wsX8_wholeOf wsX8_allSwings := goodIn_r _ [27, 28, 29, 30, 6, 31, 19, 12, 13, 14, 56, 57, 58, 59, 60, 61, 62, 63, 64, 65, 66, 67, 68, 69] (by decide +kernel) (by decide +kernel)
set_option maxRecDepth 20000 in
theorem gX8_wholeOf_X8_allSwings : GoodIn wsX8_wholeOf (wsV RX8 87 RX8 yX8_allSwings wsX8_allSwings) := goodIn_app (goodIn_of _ (by decide +kernel)) ggX8_wholeOf_X8_allSwings
set_option maxRecDepth 20000 in
theorem ggX8_wholeOf_X8_dummies : GoodIn wsX8_wholeOf wsX8_dummies := goodIn_r _ [35, 1, 36, 37, 38, 6, 39, 40, 41, 42, 43, 28, 29, 30, 31, 19, 12, 13, 14, 56, 57, 58, 59, 60, 61, 62, 63, 64, 65, 66, 67, 68, 69] (by decide +kernel) (by decide +kernel)
set_option maxRecDepth 20000 in
theorem gX8_wholeOf_X8_dummies : GoodIn wsX8_wholeOf (wsV RX8 115 RX8 yX8_dummies wsX8_dummies) := goodIn_app (goodIn_of _ (by decide +kernel)) ggX8_wholeOf_X8_dummies
set_option maxRecDepth 20000 in
theorem ggX8_wholeOf_X8_needed : GoodIn wsX8_wholeOf wsX8_needed := goodIn_r _ [47, 1, 36, 37, 38, 6, 39, 40, 41, 42, 43, 48, 49, 50, 51, 19, 2, 12, 13, 14, 56, 57, 58, 59, 60, 61, 62, 63, 64, 65, 66, 67, 68, 69] (by decide +kernel) (by decide +kernel)
set_option maxRecDepth 20000 in
theorem gX8_wholeOf_X8_needed : GoodIn wsX8_wholeOf (wsV RX8 118 RX8 yX8_needed wsX8_needed) := goodIn_app (goodIn_of _ (by decide +kernel)) ggX8_wholeOf_X8_needed
set_option maxRecDepth 20000 in
theorem ggX8_wholeOf_X8_alikeRules : GoodIn wsX8_wholeOf wsX8_alikeRules := goodIn_r _ [55, 1, 56, 57, 58, 59, 60, 61, 62, 63, 64, 65, 66, 67, 68, 69] (by decide +kernel) (by decide +kernel)
set_option maxRecDepth 20000 in
theorem gX8_wholeOf_X8_alikeRules : GoodIn wsX8_wholeOf (wsV RX8 138 RX8 yX8_alikeRules wsX8_alikeRules) := goodIn_app (goodIn_of _ (by decide +kernel)) ggX8_wholeOf_X8_alikeRules
theorem dX8_wholeOf_0 : decode cX8_wholeOf 0 = .ok (.iload_n 1, 1) := by decide +kernel
theorem dX8_wholeOf_1 : decode cX8_wholeOf 1 = .ok (.tableswitch 128 0 10 #[59, 66, 74, 81, 88, 96, 102, 108, 113, 118, 123], 59) := by decide +kernel
theorem dX8_wholeOf_60 : decode cX8_wholeOf 60 = .ok (.aload_n 0, 1) := by decide +kernel
theorem dX8_wholeOf_61 : decode cX8_wholeOf 61 = .ok (.getfield 7, 3) := by decide +kernel
theorem dX8_wholeOf_64 : decode cX8_wholeOf 64 = .ok (.iconst 0, 1) := by decide +kernel
theorem dX8_wholeOf_65 : decode cX8_wholeOf 65 = .ok (.iaload, 1) := by decide +kernel
theorem dX8_wholeOf_66 : decode cX8_wholeOf 66 = .ok (.ireturn, 1) := by decide +kernel
theorem dX8_wholeOf_67 : decode cX8_wholeOf 67 = .ok (.aload_n 0, 1) := by decide +kernel
theorem dX8_wholeOf_68 : decode cX8_wholeOf 68 = .ok (.getfield 71, 3) := by decide +kernel
theorem dX8_wholeOf_71 : decode cX8_wholeOf 71 = .ok (.invokestatic 54, 3) := by decide +kernel
theorem dX8_wholeOf_74 : decode cX8_wholeOf 74 = .ok (.ireturn, 1) := by decide +kernel
theorem dX8_wholeOf_75 : decode cX8_wholeOf 75 = .ok (.aload_n 0, 1) := by decide +kernel
theorem dX8_wholeOf_76 : decode cX8_wholeOf 76 = .ok (.getfield 7, 3) := by decide +kernel
theorem dX8_wholeOf_79 : decode cX8_wholeOf 79 = .ok (.iconst 1, 1) := by decide +kernel
theorem dX8_wholeOf_80 : decode cX8_wholeOf 80 = .ok (.iaload, 1) := by decide +kernel
theorem dX8_wholeOf_81 : decode cX8_wholeOf 81 = .ok (.ireturn, 1) := by decide +kernel
theorem dX8_wholeOf_82 : decode cX8_wholeOf 82 = .ok (.aload_n 0, 1) := by decide +kernel
theorem dX8_wholeOf_83 : decode cX8_wholeOf 83 = .ok (.getfield 7, 3) := by decide +kernel
theorem dX8_wholeOf_86 : decode cX8_wholeOf 86 = .ok (.iconst 2, 1) := by decide +kernel
theorem dX8_wholeOf_87 : decode cX8_wholeOf 87 = .ok (.iaload, 1) := by decide +kernel
theorem dX8_wholeOf_88 : decode cX8_wholeOf 88 = .ok (.ireturn, 1) := by decide +kernel
theorem dX8_wholeOf_89 : decode cX8_wholeOf 89 = .ok (.aload_n 0, 1) := by decide +kernel
theorem dX8_wholeOf_90 : decode cX8_wholeOf 90 = .ok (.sipush 255, 3) := by decide +kernel
theorem dX8_wholeOf_93 : decode cX8_wholeOf 93 = .ok (.invokevirtual 61, 3) := by decide +kernel
theorem dX8_wholeOf_96 : decode cX8_wholeOf 96 = .ok (.ireturn, 1) := by decide +kernel
theorem dX8_wholeOf_97 : decode cX8_wholeOf 97 = .ok (.aload_n 0, 1) := by decide +kernel
theorem dX8_wholeOf_98 : decode cX8_wholeOf 98 = .ok (.iconst 0, 1) := by decide +kernel
theorem dX8_wholeOf_99 : decode cX8_wholeOf 99 = .ok (.invokevirtual 134, 3) := by decide +kernel
theorem dX8_wholeOf_102 : decode cX8_wholeOf 102 = .ok (.ireturn, 1) := by decide +kernel
theorem dX8_wholeOf_103 : decode cX8_wholeOf 103 = .ok (.aload_n 0, 1) := by decide +kernel
theorem dX8_wholeOf_104 : decode cX8_wholeOf 104 = .ok (.iconst 1, 1) := by decide +kernel
theorem dX8_wholeOf_105 : decode cX8_wholeOf 105 = .ok (.invokevirtual 134, 3) := by decide +kernel
theorem dX8_wholeOf_108 : decode cX8_wholeOf 108 = .ok (.ireturn, 1) := by decide +kernel
theorem dX8_wholeOf_109 : decode cX8_wholeOf 109 = .ok (.aload_n 0, 1) := by decide +kernel
theorem dX8_wholeOf_110 : decode cX8_wholeOf 110 = .ok (.invokevirtual 87, 3) := by decide +kernel
theorem dX8_wholeOf_113 : decode cX8_wholeOf 113 = .ok (.ireturn, 1) := by decide +kernel
theorem dX8_wholeOf_114 : decode cX8_wholeOf 114 = .ok (.aload_n 0, 1) := by decide +kernel
theorem dX8_wholeOf_115 : decode cX8_wholeOf 115 = .ok (.invokevirtual 115, 3) := by decide +kernel
theorem dX8_wholeOf_118 : decode cX8_wholeOf 118 = .ok (.ireturn, 1) := by decide +kernel
theorem dX8_wholeOf_119 : decode cX8_wholeOf 119 = .ok (.aload_n 0, 1) := by decide +kernel
theorem dX8_wholeOf_120 : decode cX8_wholeOf 120 = .ok (.invokevirtual 118, 3) := by decide +kernel
theorem dX8_wholeOf_123 : decode cX8_wholeOf 123 = .ok (.ireturn, 1) := by decide +kernel
theorem dX8_wholeOf_124 : decode cX8_wholeOf 124 = .ok (.aload_n 0, 1) := by decide +kernel
theorem dX8_wholeOf_125 : decode cX8_wholeOf 125 = .ok (.invokevirtual 138, 3) := by decide +kernel
theorem dX8_wholeOf_128 : decode cX8_wholeOf 128 = .ok (.ireturn, 1) := by decide +kernel
theorem dX8_wholeOf_129 : decode cX8_wholeOf 129 = .ok (.aload_n 0, 1) := by decide +kernel
theorem dX8_wholeOf_130 : decode cX8_wholeOf 130 = .ok (.getfield 141, 3) := by decide +kernel
theorem dX8_wholeOf_133 : decode cX8_wholeOf 133 = .ok (.ireturn, 1) := by decide +kernel
set_option maxRecDepth 20000 in
theorem ggX8_whole_X8_in : GoodIn wsX8_whole wsX8_in := goodIn_r _ [5] (by decide +kernel) (by decide +kernel)
set_option maxRecDepth 20000 in
theorem gX8_whole_X8_in : GoodIn wsX8_whole (va_wsS RX8 93 yX8_in wsX8_in) := goodIn_app (goodIn_of _ (by decide +kernel)) ggX8_whole_X8_in
set_option maxRecDepth 20000 in
theorem ggX8_whole_X8_throwsAt : GoodIn wsX8_whole wsX8_throwsAt := goodIn_r _ [9, 10, 88, 89, 90, 91, 92, 93, 94, 95, 96, 97, 98, 99, 100, 101] (by decide +kernel) (by decide +kernel)
set_option maxRecDepth 20000 in
theorem gX8_whole_X8_throwsAt : GoodIn wsX8_whole (wsV RX8 97 RX8 yX8_throwsAt wsX8_throwsAt) := goodIn_app (goodIn_of _ (by decide +kernel)) ggX8_whole_X8_throwsAt
set_option maxRecDepth 20000 in
theorem ggX8_whole_X8_lays : GoodIn wsX8_whole wsX8_lays := goodIn_r _ [14, 15, 16, 17, 18, 19, 4, 20, 1, 21, 22, 23, 24, 25, 26, 27, 28, 29, 30, 31, 32, 33, 34, 35, 36, 37, 38, 39, 40, 41, 42, 43, 44, 45, 46, 47, 48, 49, 50, 88, 89, 90, 91, 92, 93, 94, 95, 96, 97, 98, 99, 100, 101] (by decide +kernel) (by decide +kernel)
set_option maxRecDepth 20000 in
theorem gX8_whole_X8_lays : GoodIn wsX8_whole (wsV RX8 121 RX8 yX8_lays wsX8_lays) := goodIn_app (goodIn_of _ (by decide +kernel)) ggX8_whole_X8_lays
set_option maxRecDepth 20000 in
theorem ggX8_whole_X8_wholeOf : GoodIn wsX8_whole wsX8_wholeOf := goodIn_r _ [54, 1, 15, 55, 48, 49, 4, 50, 40, 41, 42, 43, 37, 38, 39, 56, 57, 58, 59, 16, 60, 61, 62, 63, 64, 65, 66, 67, 68, 69, 70, 71, 72, 73, 74, 75, 21, 22, 23, 24, 25, 26, 27, 28, 76, 77, 78, 79, 80, 81, 82, 83, 84, 85, 86, 87, 88, 89, 90, 91, 92, 93, 94, 95, 96, 97, 98, 99, 100, 101] (by decide +kernel) (by decide +kernel)
set_option maxRecDepth 20000 in
theorem gX8_whole_X8_wholeOf : GoodIn wsX8_whole (wsV RX8 144 RX8 yX8_wholeOf wsX8_wholeOf) := goodIn_app (goodIn_of _ (by decide +kernel)) ggX8_whole_X8_wholeOf
theorem dX8_whole_0 : decode cX8_whole 0 = .ok (.aload_n 0, 1) := by decide +kernel
theorem dX8_whole_1 : decode cX8_whole 1 = .ok (.iload_n 1, 1) := by decide +kernel
theorem dX8_whole_2 : decode cX8_whole 2 = .ok (.iconst 0, 1) := by decide +kernel
theorem dX8_whole_3 : decode cX8_whole 3 = .ok (.bipush 11, 2) := by decide +kernel
theorem dX8_whole_5 : decode cX8_whole 5 = .ok (.invokestatic 93, 3) := by decide +kernel
theorem dX8_whole_8 : decode cX8_whole 8 = .ok (.ifCond .eq 7, 3) := by decide +kernel
theorem dX8_whole_11 : decode cX8_whole 11 = .ok (.iconst 0, 1) := by decide +kernel
theorem dX8_whole_12 : decode cX8_whole 12 = .ok (.goto 4, 3) := by decide +kernel
theorem dX8_whole_15 : decode cX8_whole 15 = .ok (.iconst 1, 1) := by decide +kernel
theorem dX8_whole_16 : decode cX8_whole 16 = .ok (.invokevirtual 97, 3) := by decide +kernel
theorem dX8_whole_19 : decode cX8_whole 19 = .ok (.ifCond .eq 5, 3) := by decide +kernel
theorem dX8_whole_22 : decode cX8_whole 22 = .ok (.iconst 0, 1) := by decide +kernel
theorem dX8_whole_23 : decode cX8_whole 23 = .ok (.ireturn, 1) := by decide +kernel
theorem dX8_whole_24 : decode cX8_whole 24 = .ok (.aload_n 0, 1) := by decide +kernel
theorem dX8_whole_25 : decode cX8_whole 25 = .ok (.aload_n 0, 1) := by decide +kernel
theorem dX8_whole_26 : decode cX8_whole 26 = .ok (.getfield 7, 3) := by decide +kernel
theorem dX8_whole_29 : decode cX8_whole 29 = .ok (.iconst 1, 1) := by decide +kernel
theorem dX8_whole_30 : decode cX8_whole 30 = .ok (.iaload, 1) := by decide +kernel
theorem dX8_whole_31 : decode cX8_whole 31 = .ok (.invokevirtual 121, 3) := by decide +kernel
theorem dX8_whole_34 : decode cX8_whole 34 = .ok (.aload_n 0, 1) := by decide +kernel
theorem dX8_whole_35 : decode cX8_whole 35 = .ok (.iload_n 1, 1) := by decide +kernel
theorem dX8_whole_36 : decode cX8_whole 36 = .ok (.invokevirtual 144, 3) := by decide +kernel
theorem dX8_whole_39 : decode cX8_whole 39 = .ok (.ireturn, 1) := by decide +kernel
theorem dX8_isSet_0 : decode cX8_isSet 0 = .ok (.iload_n 1, 1) := by decide +kernel
theorem dX8_isSet_1 : decode cX8_isSet 1 = .ok (.ifCond .lt 19, 3) := by decide +kernel
theorem dX8_isSet_4 : decode cX8_isSet 4 = .ok (.iload_n 1, 1) := by decide +kernel
theorem dX8_isSet_5 : decode cX8_isSet 5 = .ok (.iconst 1, 1) := by decide +kernel
theorem dX8_isSet_6 : decode cX8_isSet 6 = .ok (.aload_n 0, 1) := by decide +kernel
theorem dX8_isSet_7 : decode cX8_isSet 7 = .ok (.getfield 7, 3) := by decide +kernel
theorem dX8_isSet_10 : decode cX8_isSet 10 = .ok (.iconst 0, 1) := by decide +kernel
theorem dX8_isSet_11 : decode cX8_isSet 11 = .ok (.iaload, 1) := by decide +kernel
theorem dX8_isSet_12 : decode cX8_isSet 12 = .ok (.ishl, 1) := by decide +kernel
theorem dX8_isSet_13 : decode cX8_isSet 13 = .ok (.if_icmp .ge 7, 3) := by decide +kernel
theorem dX8_isSet_16 : decode cX8_isSet 16 = .ok (.iconst 1, 1) := by decide +kernel
theorem dX8_isSet_17 : decode cX8_isSet 17 = .ok (.goto 4, 3) := by decide +kernel
theorem dX8_isSet_20 : decode cX8_isSet 20 = .ok (.iconst 0, 1) := by decide +kernel
theorem dX8_isSet_21 : decode cX8_isSet 21 = .ok (.ireturn, 1) := by decide +kernel
set_option maxRecDepth 20000 in
theorem ggX8_wins_X8_isSet : GoodIn wsX8_wins wsX8_isSet := goodIn_r _ [6, 1, 34, 35, 36, 37, 38, 39, 40, 41, 42, 43, 44, 45, 46, 47] (by decide +kernel) (by decide +kernel)
set_option maxRecDepth 20000 in
theorem gX8_wins_X8_isSet : GoodIn wsX8_wins (wsV RX8 147 RX8 yX8_isSet wsX8_isSet) := goodIn_app (goodIn_of _ (by decide +kernel)) ggX8_wins_X8_isSet
set_option maxRecDepth 20000 in
theorem ggX8_wins_X8_throwsAt : GoodIn wsX8_wins wsX8_throwsAt := goodIn_r _ [10, 11, 34, 35, 36, 37, 38, 39, 40, 41, 42, 43, 44, 45, 46, 47] (by decide +kernel) (by decide +kernel)
set_option maxRecDepth 20000 in
theorem gX8_wins_X8_throwsAt : GoodIn wsX8_wins (wsV RX8 97 RX8 yX8_throwsAt wsX8_throwsAt) := goodIn_app (goodIn_of _ (by decide +kernel)) ggX8_wins_X8_throwsAt
set_option maxRecDepth 20000 in
theorem ggX8_wins_X8_why : GoodIn wsX8_wins wsX8_why := goodIn_r _ [15, 1, 16, 17, 18, 5, 19, 20, 21, 22, 23, 24, 25, 26, 27, 28, 29, 30, 31, 32, 33, 34, 35, 36, 37, 38, 39, 40, 41, 42, 43, 44, 45, 46, 47] (by decide +kernel) (by decide +kernel)
set_option maxRecDepth 20000 in
theorem gX8_wins_X8_why : GoodIn wsX8_wins (wsV RX8 74 RX8 yX8_why wsX8_why) := goodIn_app (goodIn_of _ (by decide +kernel)) ggX8_wins_X8_why
theorem dX8_wins_0 : decode cX8_wins 0 = .ok (.aload_n 0, 1) := by decide +kernel
theorem dX8_wins_1 : decode cX8_wins 1 = .ok (.aload_n 0, 1) := by decide +kernel
theorem dX8_wins_2 : decode cX8_wins 2 = .ok (.iload_n 1, 1) := by decide +kernel
theorem dX8_wins_3 : decode cX8_wins 3 = .ok (.invokevirtual 147, 3) := by decide +kernel
theorem dX8_wins_6 : decode cX8_wins 6 = .ok (.ifCond .eq 7, 3) := by decide +kernel
theorem dX8_wins_9 : decode cX8_wins 9 = .ok (.iconst 0, 1) := by decide +kernel
theorem dX8_wins_10 : decode cX8_wins 10 = .ok (.goto 4, 3) := by decide +kernel
theorem dX8_wins_13 : decode cX8_wins 13 = .ok (.iconst 1, 1) := by decide +kernel
theorem dX8_wins_14 : decode cX8_wins 14 = .ok (.invokevirtual 97, 3) := by decide +kernel
theorem dX8_wins_17 : decode cX8_wins 17 = .ok (.ifCond .eq 7, 3) := by decide +kernel
theorem dX8_wins_20 : decode cX8_wins 20 = .ok (.iconst 0, 1) := by decide +kernel
theorem dX8_wins_21 : decode cX8_wins 21 = .ok (.goto 22, 3) := by decide +kernel
theorem dX8_wins_24 : decode cX8_wins 24 = .ok (.aload_n 0, 1) := by decide +kernel
theorem dX8_wins_25 : decode cX8_wins 25 = .ok (.iload_n 1, 1) := by decide +kernel
theorem dX8_wins_26 : decode cX8_wins 26 = .ok (.aload_n 0, 1) := by decide +kernel
theorem dX8_wins_27 : decode cX8_wins 27 = .ok (.getfield 7, 3) := by decide +kernel
theorem dX8_wins_30 : decode cX8_wins 30 = .ok (.iconst 1, 1) := by decide +kernel
theorem dX8_wins_31 : decode cX8_wins 31 = .ok (.iaload, 1) := by decide +kernel
theorem dX8_wins_32 : decode cX8_wins 32 = .ok (.invokevirtual 74, 3) := by decide +kernel
theorem dX8_wins_35 : decode cX8_wins 35 = .ok (.ifCond .ne 7, 3) := by decide +kernel
theorem dX8_wins_38 : decode cX8_wins 38 = .ok (.iconst 1, 1) := by decide +kernel
theorem dX8_wins_39 : decode cX8_wins 39 = .ok (.goto 4, 3) := by decide +kernel
theorem dX8_wins_42 : decode cX8_wins 42 = .ok (.iconst 0, 1) := by decide +kernel
theorem dX8_wins_43 : decode cX8_wins 43 = .ok (.ireturn, 1) := by decide +kernel
set_option maxRecDepth 20000 in
theorem ggX8_least_X8_throwsAt : GoodIn wsX8_least wsX8_throwsAt := goodIn_r _ [6, 7, 52, 53, 54, 55, 56, 57, 58, 59, 60, 61, 62, 63, 64, 65] (by decide +kernel) (by decide +kernel)
set_option maxRecDepth 20000 in
theorem gX8_least_X8_throwsAt : GoodIn wsX8_least (wsV RX8 97 RX8 yX8_throwsAt wsX8_throwsAt) := goodIn_app (goodIn_of _ (by decide +kernel)) ggX8_least_X8_throwsAt
set_option maxRecDepth 20000 in
theorem ggX8_least_X8_lays : GoodIn wsX8_least wsX8_lays := goodIn_r _ [11, 12, 13, 14, 15, 16, 5, 17, 1, 18, 19, 20, 21, 22, 23, 24, 25, 26, 27, 28, 29, 30, 31, 32, 33, 34, 35, 36, 37, 38, 39, 40, 41, 42, 43, 44, 45, 46, 47, 52, 53, 54, 55, 56, 57, 58, 59, 60, 61, 62, 63, 64, 65] (by decide +kernel) (by decide +kernel)
set_option maxRecDepth 20000 in
theorem gX8_least_X8_lays : GoodIn wsX8_least (wsV RX8 121 RX8 yX8_lays wsX8_lays) := goodIn_app (goodIn_of _ (by decide +kernel)) ggX8_least_X8_lays
set_option maxRecDepth 20000 in
theorem ggX8_least_X8_isLeast : GoodIn wsX8_least wsX8_isLeast := goodIn_r _ [51, 13, 34, 35, 5, 36, 52, 53, 54, 55, 56, 57, 58, 59, 60, 61, 62, 63, 64, 65] (by decide +kernel) (by decide +kernel)
set_option maxRecDepth 20000 in
theorem gX8_least_X8_isLeast : GoodIn wsX8_least (wsV RX8 131 RX8 yX8_isLeast wsX8_isLeast) := goodIn_app (goodIn_of _ (by decide +kernel)) ggX8_least_X8_isLeast
theorem dX8_least_0 : decode cX8_least 0 = .ok (.aload_n 0, 1) := by decide +kernel
theorem dX8_least_1 : decode cX8_least 1 = .ok (.iload_n 1, 1) := by decide +kernel
theorem dX8_least_2 : decode cX8_least 2 = .ok (.ifCond .ge 7, 3) := by decide +kernel
theorem dX8_least_5 : decode cX8_least 5 = .ok (.iconst 1, 1) := by decide +kernel
theorem dX8_least_6 : decode cX8_least 6 = .ok (.goto 4, 3) := by decide +kernel
theorem dX8_least_9 : decode cX8_least 9 = .ok (.iconst 0, 1) := by decide +kernel
theorem dX8_least_10 : decode cX8_least 10 = .ok (.invokevirtual 97, 3) := by decide +kernel
theorem dX8_least_13 : decode cX8_least 13 = .ok (.ifCond .eq 5, 3) := by decide +kernel
theorem dX8_least_16 : decode cX8_least 16 = .ok (.iconst 0, 1) := by decide +kernel
theorem dX8_least_17 : decode cX8_least 17 = .ok (.ireturn, 1) := by decide +kernel
theorem dX8_least_18 : decode cX8_least 18 = .ok (.aload_n 0, 1) := by decide +kernel
theorem dX8_least_19 : decode cX8_least 19 = .ok (.aload_n 0, 1) := by decide +kernel
theorem dX8_least_20 : decode cX8_least 20 = .ok (.getfield 7, 3) := by decide +kernel
theorem dX8_least_23 : decode cX8_least 23 = .ok (.iconst 1, 1) := by decide +kernel
theorem dX8_least_24 : decode cX8_least 24 = .ok (.iaload, 1) := by decide +kernel
theorem dX8_least_25 : decode cX8_least 25 = .ok (.invokevirtual 121, 3) := by decide +kernel
theorem dX8_least_28 : decode cX8_least 28 = .ok (.iconst 0, 1) := by decide +kernel
theorem dX8_least_29 : decode cX8_least 29 = .ok (.istore_n 2, 1) := by decide +kernel
theorem dX8_least_30 : decode cX8_least 30 = .ok (.iconst 0, 1) := by decide +kernel
theorem dX8_least_31 : decode cX8_least 31 = .ok (.istore_n 3, 1) := by decide +kernel
theorem dX8_least_32 : decode cX8_least 32 = .ok (.iload_n 3, 1) := by decide +kernel
theorem dX8_least_33 : decode cX8_least 33 = .ok (.sipush 256, 3) := by decide +kernel
theorem dX8_least_36 : decode cX8_least 36 = .ok (.if_icmp .ge 41, 3) := by decide +kernel
theorem dX8_least_39 : decode cX8_least 39 = .ok (.aload_n 0, 1) := by decide +kernel
theorem dX8_least_40 : decode cX8_least 40 = .ok (.iload_n 3, 1) := by decide +kernel
theorem dX8_least_41 : decode cX8_least 41 = .ok (.invokevirtual 131, 3) := by decide +kernel
theorem dX8_least_44 : decode cX8_least 44 = .ok (.istore 4, 2) := by decide +kernel
theorem dX8_least_46 : decode cX8_least 46 = .ok (.iload 4, 2) := by decide +kernel
theorem dX8_least_48 : decode cX8_least 48 = .ok (.ifCond .eq 10, 3) := by decide +kernel
theorem dX8_least_51 : decode cX8_least 51 = .ok (.iload_n 2, 1) := by decide +kernel
theorem dX8_least_52 : decode cX8_least 52 = .ok (.iload_n 1, 1) := by decide +kernel
theorem dX8_least_53 : decode cX8_least 53 = .ok (.if_icmp .ne 5, 3) := by decide +kernel
theorem dX8_least_56 : decode cX8_least 56 = .ok (.iload_n 3, 1) := by decide +kernel
theorem dX8_least_57 : decode cX8_least 57 = .ok (.ireturn, 1) := by decide +kernel
theorem dX8_least_58 : decode cX8_least 58 = .ok (.iload_n 2, 1) := by decide +kernel
theorem dX8_least_59 : decode cX8_least 59 = .ok (.iload 4, 2) := by decide +kernel
theorem dX8_least_61 : decode cX8_least 61 = .ok (.ifCond .eq 7, 3) := by decide +kernel
theorem dX8_least_64 : decode cX8_least 64 = .ok (.iconst 1, 1) := by decide +kernel
theorem dX8_least_65 : decode cX8_least 65 = .ok (.goto 4, 3) := by decide +kernel
theorem dX8_least_68 : decode cX8_least 68 = .ok (.iconst 0, 1) := by decide +kernel
theorem dX8_least_69 : decode cX8_least 69 = .ok (.iadd, 1) := by decide +kernel
theorem dX8_least_70 : decode cX8_least 70 = .ok (.istore_n 2, 1) := by decide +kernel
theorem dX8_least_71 : decode cX8_least 71 = .ok (.iinc 3 1, 3) := by decide +kernel
theorem dX8_least_74 : decode cX8_least 74 = .ok (.goto (-42), 3) := by decide +kernel
theorem dX8_least_77 : decode cX8_least 77 = .ok (.iconst (-1), 1) := by decide +kernel
theorem dX8_least_78 : decode cX8_least 78 = .ok (.ireturn, 1) := by decide +kernel
set_option maxRecDepth 20000 in
theorem ggX8_share_X8_isMember : GoodIn wsX8_share wsX8_isMember := goodIn_r _ [6, 1, 60, 61, 62, 63, 64, 65, 66, 67, 68, 69, 70, 71, 72, 73] (by decide +kernel) (by decide +kernel)
set_option maxRecDepth 20000 in
theorem gX8_share_X8_isMember : GoodIn wsX8_share (wsV RX8 43 RX8 yX8_isMember wsX8_isMember) := goodIn_app (goodIn_of _ (by decide +kernel)) ggX8_share_X8_isMember
set_option maxRecDepth 20000 in
theorem ggX8_share_X8_throwsAt : GoodIn wsX8_share wsX8_throwsAt := goodIn_r _ [10, 11, 60, 61, 62, 63, 64, 65, 66, 67, 68, 69, 70, 71, 72, 73] (by decide +kernel) (by decide +kernel)
set_option maxRecDepth 20000 in
theorem gX8_share_X8_throwsAt : GoodIn wsX8_share (wsV RX8 97 RX8 yX8_throwsAt wsX8_throwsAt) := goodIn_app (goodIn_of _ (by decide +kernel)) ggX8_share_X8_throwsAt
set_option maxRecDepth 20000 in
theorem ggX8_share_X8_lays : GoodIn wsX8_share wsX8_lays := goodIn_r _ [15, 16, 17, 18, 19, 20, 5, 21, 1, 22, 23, 24, 25, 2, 3, 4, 6, 26, 27, 28, 29, 30, 31, 32, 33, 34, 35, 36, 37, 38, 39, 40, 41, 42, 43, 44, 45, 46, 47, 60, 61, 62, 63, 64, 65, 66, 67, 68, 69, 70, 71, 72, 73] (by decide +kernel) (by decide +kernel)
set_option maxRecDepth 20000 in
theorem gX8_share_X8_lays : GoodIn wsX8_share (wsV RX8 121 RX8 yX8_lays wsX8_lays) := goodIn_app (goodIn_of _ (by decide +kernel)) ggX8_share_X8_lays
set_option maxRecDepth 20000 in
theorem ggX8_share_X8_shareOf : GoodIn wsX8_share wsX8_shareOf := goodIn_r _ [51, 52, 53, 54, 5, 55, 56, 57, 58, 59, 17, 34, 35, 36, 60, 61, 62, 63, 64, 65, 66, 67, 68, 69, 70, 71, 72, 73] (by decide +kernel) (by decide +kernel)
set_option maxRecDepth 20000 in
theorem gX8_share_X8_shareOf : GoodIn wsX8_share (wsV RX8 150 RX8 yX8_shareOf wsX8_shareOf) := goodIn_app (goodIn_of _ (by decide +kernel)) ggX8_share_X8_shareOf
theorem dX8_share_0 : decode cX8_share 0 = .ok (.aload_n 0, 1) := by decide +kernel
theorem dX8_share_1 : decode cX8_share 1 = .ok (.aload_n 0, 1) := by decide +kernel
theorem dX8_share_2 : decode cX8_share 2 = .ok (.iload_n 1, 1) := by decide +kernel
theorem dX8_share_3 : decode cX8_share 3 = .ok (.invokevirtual 43, 3) := by decide +kernel
theorem dX8_share_6 : decode cX8_share 6 = .ok (.ifCond .eq 7, 3) := by decide +kernel
theorem dX8_share_9 : decode cX8_share 9 = .ok (.iconst 0, 1) := by decide +kernel
theorem dX8_share_10 : decode cX8_share 10 = .ok (.goto 4, 3) := by decide +kernel
theorem dX8_share_13 : decode cX8_share 13 = .ok (.iconst 1, 1) := by decide +kernel
theorem dX8_share_14 : decode cX8_share 14 = .ok (.invokevirtual 97, 3) := by decide +kernel
theorem dX8_share_17 : decode cX8_share 17 = .ok (.ifCond .eq 5, 3) := by decide +kernel
theorem dX8_share_20 : decode cX8_share 20 = .ok (.fconst 0, 1) := by decide +kernel
theorem dX8_share_21 : decode cX8_share 21 = .ok (.freturn, 1) := by decide +kernel
theorem dX8_share_22 : decode cX8_share 22 = .ok (.aload_n 0, 1) := by decide +kernel
theorem dX8_share_23 : decode cX8_share 23 = .ok (.aload_n 0, 1) := by decide +kernel
theorem dX8_share_24 : decode cX8_share 24 = .ok (.getfield 7, 3) := by decide +kernel
theorem dX8_share_27 : decode cX8_share 27 = .ok (.iconst 1, 1) := by decide +kernel
theorem dX8_share_28 : decode cX8_share 28 = .ok (.iaload, 1) := by decide +kernel
theorem dX8_share_29 : decode cX8_share 29 = .ok (.invokevirtual 121, 3) := by decide +kernel
theorem dX8_share_32 : decode cX8_share 32 = .ok (.aload_n 0, 1) := by decide +kernel
theorem dX8_share_33 : decode cX8_share 33 = .ok (.iload_n 1, 1) := by decide +kernel
theorem dX8_share_34 : decode cX8_share 34 = .ok (.invokevirtual 150, 3) := by decide +kernel
theorem dX8_share_37 : decode cX8_share 37 = .ok (.freturn, 1) := by decide +kernel
set_option maxRecDepth 20000 in
theorem ggX8_part_X8_isMember : GoodIn wsX8_part wsX8_isMember := goodIn_r _ [6, 1, 59, 60, 61, 62, 63, 64, 65, 66, 67, 68, 69, 70, 71, 72] (by decide +kernel) (by decide +kernel)
set_option maxRecDepth 20000 in
theorem gX8_part_X8_isMember : GoodIn wsX8_part (wsV RX8 43 RX8 yX8_isMember wsX8_isMember) := goodIn_app (goodIn_of _ (by decide +kernel)) ggX8_part_X8_isMember
set_option maxRecDepth 20000 in
theorem ggX8_part_X8_throwsAt : GoodIn wsX8_part wsX8_throwsAt := goodIn_r _ [10, 11, 59, 60, 61, 62, 63, 64, 65, 66, 67, 68, 69, 70, 71, 72] (by decide +kernel) (by decide +kernel)
set_option maxRecDepth 20000 in
theorem gX8_part_X8_throwsAt : GoodIn wsX8_part (wsV RX8 97 RX8 yX8_throwsAt wsX8_throwsAt) := goodIn_app (goodIn_of _ (by decide +kernel)) ggX8_part_X8_throwsAt
set_option maxRecDepth 20000 in
theorem ggX8_part_X8_lays : GoodIn wsX8_part wsX8_lays := goodIn_r _ [15, 16, 17, 18, 19, 20, 5, 21, 1, 22, 23, 24, 25, 2, 3, 4, 6, 26, 27, 28, 29, 30, 31, 32, 33, 34, 35, 36, 37, 38, 39, 40, 41, 42, 43, 44, 45, 46, 47, 59, 60, 61, 62, 63, 64, 65, 66, 67, 68, 69, 70, 71, 72] (by decide +kernel) (by decide +kernel)
set_option maxRecDepth 20000 in
theorem gX8_part_X8_lays : GoodIn wsX8_part (wsV RX8 121 RX8 yX8_lays wsX8_lays) := goodIn_app (goodIn_of _ (by decide +kernel)) ggX8_part_X8_lays
set_option maxRecDepth 20000 in
theorem ggX8_part_X8_partOf : GoodIn wsX8_part wsX8_partOf := goodIn_r _ [51, 16, 22, 23, 24, 5, 25, 1, 2, 3, 4, 6, 52, 53, 54, 55, 17, 45, 46, 47, 34, 35, 36, 56, 57, 58, 59, 60, 61, 62, 63, 64, 65, 66, 67, 68, 69, 70, 71, 72] (by decide +kernel) (by decide +kernel)
set_option maxRecDepth 20000 in
theorem gX8_part_X8_partOf : GoodIn wsX8_part (wsV RX8 154 RX8 yX8_partOf wsX8_partOf) := goodIn_app (goodIn_of _ (by decide +kernel)) ggX8_part_X8_partOf
theorem dX8_part_0 : decode cX8_part 0 = .ok (.aload_n 0, 1) := by decide +kernel
theorem dX8_part_1 : decode cX8_part 1 = .ok (.aload_n 0, 1) := by decide +kernel
theorem dX8_part_2 : decode cX8_part 2 = .ok (.iload_n 1, 1) := by decide +kernel
theorem dX8_part_3 : decode cX8_part 3 = .ok (.invokevirtual 43, 3) := by decide +kernel
theorem dX8_part_6 : decode cX8_part 6 = .ok (.ifCond .eq 7, 3) := by decide +kernel
theorem dX8_part_9 : decode cX8_part 9 = .ok (.iconst 0, 1) := by decide +kernel
theorem dX8_part_10 : decode cX8_part 10 = .ok (.goto 4, 3) := by decide +kernel
theorem dX8_part_13 : decode cX8_part 13 = .ok (.iconst 1, 1) := by decide +kernel
theorem dX8_part_14 : decode cX8_part 14 = .ok (.invokevirtual 97, 3) := by decide +kernel
theorem dX8_part_17 : decode cX8_part 17 = .ok (.ifCond .eq 5, 3) := by decide +kernel
theorem dX8_part_20 : decode cX8_part 20 = .ok (.dconst 0, 1) := by decide +kernel
theorem dX8_part_21 : decode cX8_part 21 = .ok (.dreturn, 1) := by decide +kernel
theorem dX8_part_22 : decode cX8_part 22 = .ok (.aload_n 0, 1) := by decide +kernel
theorem dX8_part_23 : decode cX8_part 23 = .ok (.aload_n 0, 1) := by decide +kernel
theorem dX8_part_24 : decode cX8_part 24 = .ok (.getfield 7, 3) := by decide +kernel
theorem dX8_part_27 : decode cX8_part 27 = .ok (.iconst 1, 1) := by decide +kernel
theorem dX8_part_28 : decode cX8_part 28 = .ok (.iaload, 1) := by decide +kernel
theorem dX8_part_29 : decode cX8_part 29 = .ok (.invokevirtual 121, 3) := by decide +kernel
theorem dX8_part_32 : decode cX8_part 32 = .ok (.aload_n 0, 1) := by decide +kernel
theorem dX8_part_33 : decode cX8_part 33 = .ok (.iload_n 1, 1) := by decide +kernel
theorem dX8_part_34 : decode cX8_part 34 = .ok (.invokevirtual 154, 3) := by decide +kernel
theorem dX8_part_37 : decode cX8_part 37 = .ok (.dreturn, 1) := by decide +kernel
set_option maxRecDepth 20000 in
theorem ggX8_reason_X8_isSet : GoodIn wsX8_reason wsX8_isSet := goodIn_r _ [6, 1, 34, 35, 36, 37, 38, 39, 40, 41, 42, 43, 44, 45, 46, 47] (by decide +kernel) (by decide +kernel)
set_option maxRecDepth 20000 in
theorem gX8_reason_X8_isSet : GoodIn wsX8_reason (wsV RX8 147 RX8 yX8_isSet wsX8_isSet) := goodIn_app (goodIn_of _ (by decide +kernel)) ggX8_reason_X8_isSet
set_option maxRecDepth 20000 in
theorem ggX8_reason_X8_throwsAt : GoodIn wsX8_reason wsX8_throwsAt := goodIn_r _ [10, 11, 34, 35, 36, 37, 38, 39, 40, 41, 42, 43, 44, 45, 46, 47] (by decide +kernel) (by decide +kernel)
set_option maxRecDepth 20000 in
theorem gX8_reason_X8_throwsAt : GoodIn wsX8_reason (wsV RX8 97 RX8 yX8_throwsAt wsX8_throwsAt) := goodIn_app (goodIn_of _ (by decide +kernel)) ggX8_reason_X8_throwsAt
set_option maxRecDepth 20000 in
theorem ggX8_reason_X8_why : GoodIn wsX8_reason wsX8_why := goodIn_r _ [15, 1, 16, 17, 18, 5, 19, 20, 21, 22, 23, 24, 25, 26, 27, 28, 29, 30, 31, 32, 33, 34, 35, 36, 37, 38, 39, 40, 41, 42, 43, 44, 45, 46, 47] (by decide +kernel) (by decide +kernel)
set_option maxRecDepth 20000 in
theorem gX8_reason_X8_why : GoodIn wsX8_reason (wsV RX8 74 RX8 yX8_why wsX8_why) := goodIn_app (goodIn_of _ (by decide +kernel)) ggX8_reason_X8_why
theorem dX8_reason_0 : decode cX8_reason 0 = .ok (.aload_n 0, 1) := by decide +kernel
theorem dX8_reason_1 : decode cX8_reason 1 = .ok (.aload_n 0, 1) := by decide +kernel
theorem dX8_reason_2 : decode cX8_reason 2 = .ok (.iload_n 1, 1) := by decide +kernel
theorem dX8_reason_3 : decode cX8_reason 3 = .ok (.invokevirtual 147, 3) := by decide +kernel
theorem dX8_reason_6 : decode cX8_reason 6 = .ok (.ifCond .eq 7, 3) := by decide +kernel
theorem dX8_reason_9 : decode cX8_reason 9 = .ok (.iconst 0, 1) := by decide +kernel
theorem dX8_reason_10 : decode cX8_reason 10 = .ok (.goto 4, 3) := by decide +kernel
theorem dX8_reason_13 : decode cX8_reason 13 = .ok (.iconst 1, 1) := by decide +kernel
theorem dX8_reason_14 : decode cX8_reason 14 = .ok (.invokevirtual 97, 3) := by decide +kernel
theorem dX8_reason_17 : decode cX8_reason 17 = .ok (.ifCond .eq 7, 3) := by decide +kernel
theorem dX8_reason_20 : decode cX8_reason 20 = .ok (.iconst 0, 1) := by decide +kernel
theorem dX8_reason_21 : decode cX8_reason 21 = .ok (.goto 14, 3) := by decide +kernel
theorem dX8_reason_24 : decode cX8_reason 24 = .ok (.aload_n 0, 1) := by decide +kernel
theorem dX8_reason_25 : decode cX8_reason 25 = .ok (.iload_n 1, 1) := by decide +kernel
theorem dX8_reason_26 : decode cX8_reason 26 = .ok (.aload_n 0, 1) := by decide +kernel
theorem dX8_reason_27 : decode cX8_reason 27 = .ok (.getfield 7, 3) := by decide +kernel
theorem dX8_reason_30 : decode cX8_reason 30 = .ok (.iconst 1, 1) := by decide +kernel
theorem dX8_reason_31 : decode cX8_reason 31 = .ok (.iaload, 1) := by decide +kernel
theorem dX8_reason_32 : decode cX8_reason 32 = .ok (.invokevirtual 74, 3) := by decide +kernel
theorem dX8_reason_35 : decode cX8_reason 35 = .ok (.ireturn, 1) := by decide +kernel
set_option maxRecDepth 20000 in
theorem ggX8_isOrder_X8_ones : GoodIn wsX8_isOrder wsX8_ones := goodIn_r _ [6] (by decide +kernel) (by decide +kernel)
set_option maxRecDepth 20000 in
theorem gX8_isOrder_X8_ones : GoodIn wsX8_isOrder (va_wsS RX8 54 yX8_ones wsX8_ones) := goodIn_app (goodIn_of _ (by decide +kernel)) ggX8_isOrder_X8_ones
theorem dX8_isOrder_0 : decode cX8_isOrder 0 = .ok (.iload_n 1, 1) := by decide +kernel
theorem dX8_isOrder_1 : decode cX8_isOrder 1 = .ok (.istore_n 2, 1) := by decide +kernel
theorem dX8_isOrder_2 : decode cX8_isOrder 2 = .ok (.iconst 0, 1) := by decide +kernel
theorem dX8_isOrder_3 : decode cX8_isOrder 3 = .ok (.istore_n 3, 1) := by decide +kernel
theorem dX8_isOrder_4 : decode cX8_isOrder 4 = .ok (.aload_n 0, 1) := by decide +kernel
theorem dX8_isOrder_5 : decode cX8_isOrder 5 = .ok (.getfield 71, 3) := by decide +kernel
theorem dX8_isOrder_8 : decode cX8_isOrder 8 = .ok (.invokestatic 54, 3) := by decide +kernel
theorem dX8_isOrder_11 : decode cX8_isOrder 11 = .ok (.iconst 1, 1) := by decide +kernel
theorem dX8_isOrder_12 : decode cX8_isOrder 12 = .ok (.isub, 1) := by decide +kernel
theorem dX8_isOrder_13 : decode cX8_isOrder 13 = .ok (.istore 4, 2) := by decide +kernel
theorem dX8_isOrder_15 : decode cX8_isOrder 15 = .ok (.iload 4, 2) := by decide +kernel
theorem dX8_isOrder_17 : decode cX8_isOrder 17 = .ok (.ifCond .lt 65, 3) := by decide +kernel
theorem dX8_isOrder_20 : decode cX8_isOrder 20 = .ok (.aload_n 0, 1) := by decide +kernel
theorem dX8_isOrder_21 : decode cX8_isOrder 21 = .ok (.getfield 23, 3) := by decide +kernel
theorem dX8_isOrder_24 : decode cX8_isOrder 24 = .ok (.iload 4, 2) := by decide +kernel
theorem dX8_isOrder_26 : decode cX8_isOrder 26 = .ok (.iload_n 2, 1) := by decide +kernel
theorem dX8_isOrder_27 : decode cX8_isOrder 27 = .ok (.bipush 10, 2) := by decide +kernel
theorem dX8_isOrder_29 : decode cX8_isOrder 29 = .ok (.irem, 1) := by decide +kernel
theorem dX8_isOrder_30 : decode cX8_isOrder 30 = .ok (.iconst 1, 1) := by decide +kernel
theorem dX8_isOrder_31 : decode cX8_isOrder 31 = .ok (.isub, 1) := by decide +kernel
theorem dX8_isOrder_32 : decode cX8_isOrder 32 = .ok (.iastore, 1) := by decide +kernel
theorem dX8_isOrder_33 : decode cX8_isOrder 33 = .ok (.iload_n 2, 1) := by decide +kernel
theorem dX8_isOrder_34 : decode cX8_isOrder 34 = .ok (.bipush 10, 2) := by decide +kernel
theorem dX8_isOrder_36 : decode cX8_isOrder 36 = .ok (.idiv, 1) := by decide +kernel
theorem dX8_isOrder_37 : decode cX8_isOrder 37 = .ok (.istore_n 2, 1) := by decide +kernel
theorem dX8_isOrder_38 : decode cX8_isOrder 38 = .ok (.iload_n 3, 1) := by decide +kernel
theorem dX8_isOrder_39 : decode cX8_isOrder 39 = .ok (.aload_n 0, 1) := by decide +kernel
theorem dX8_isOrder_40 : decode cX8_isOrder 40 = .ok (.getfield 23, 3) := by decide +kernel
theorem dX8_isOrder_43 : decode cX8_isOrder 43 = .ok (.iload 4, 2) := by decide +kernel
theorem dX8_isOrder_45 : decode cX8_isOrder 45 = .ok (.iaload, 1) := by decide +kernel
theorem dX8_isOrder_46 : decode cX8_isOrder 46 = .ok (.ifCond .lt 27, 3) := by decide +kernel
theorem dX8_isOrder_49 : decode cX8_isOrder 49 = .ok (.aload_n 0, 1) := by decide +kernel
theorem dX8_isOrder_50 : decode cX8_isOrder 50 = .ok (.getfield 23, 3) := by decide +kernel
theorem dX8_isOrder_53 : decode cX8_isOrder 53 = .ok (.iload 4, 2) := by decide +kernel
theorem dX8_isOrder_55 : decode cX8_isOrder 55 = .ok (.iaload, 1) := by decide +kernel
theorem dX8_isOrder_56 : decode cX8_isOrder 56 = .ok (.bipush 8, 2) := by decide +kernel
theorem dX8_isOrder_58 : decode cX8_isOrder 58 = .ok (.if_icmp .ge 15, 3) := by decide +kernel
theorem dX8_isOrder_61 : decode cX8_isOrder 61 = .ok (.iconst 1, 1) := by decide +kernel
theorem dX8_isOrder_62 : decode cX8_isOrder 62 = .ok (.aload_n 0, 1) := by decide +kernel
theorem dX8_isOrder_63 : decode cX8_isOrder 63 = .ok (.getfield 23, 3) := by decide +kernel
theorem dX8_isOrder_66 : decode cX8_isOrder 66 = .ok (.iload 4, 2) := by decide +kernel
theorem dX8_isOrder_68 : decode cX8_isOrder 68 = .ok (.iaload, 1) := by decide +kernel
theorem dX8_isOrder_69 : decode cX8_isOrder 69 = .ok (.ishl, 1) := by decide +kernel
theorem dX8_isOrder_70 : decode cX8_isOrder 70 = .ok (.goto 4, 3) := by decide +kernel
theorem dX8_isOrder_73 : decode cX8_isOrder 73 = .ok (.iconst 0, 1) := by decide +kernel
theorem dX8_isOrder_74 : decode cX8_isOrder 74 = .ok (.ior, 1) := by decide +kernel
theorem dX8_isOrder_75 : decode cX8_isOrder 75 = .ok (.istore_n 3, 1) := by decide +kernel
theorem dX8_isOrder_76 : decode cX8_isOrder 76 = .ok (.iinc 4 (-1), 3) := by decide +kernel
theorem dX8_isOrder_79 : decode cX8_isOrder 79 = .ok (.goto (-64), 3) := by decide +kernel
theorem dX8_isOrder_82 : decode cX8_isOrder 82 = .ok (.iload_n 1, 1) := by decide +kernel
theorem dX8_isOrder_83 : decode cX8_isOrder 83 = .ok (.ifCond .lt 19, 3) := by decide +kernel
theorem dX8_isOrder_86 : decode cX8_isOrder 86 = .ok (.iload_n 2, 1) := by decide +kernel
theorem dX8_isOrder_87 : decode cX8_isOrder 87 = .ok (.ifCond .ne 15, 3) := by decide +kernel
theorem dX8_isOrder_90 : decode cX8_isOrder 90 = .ok (.iload_n 3, 1) := by decide +kernel
theorem dX8_isOrder_91 : decode cX8_isOrder 91 = .ok (.aload_n 0, 1) := by decide +kernel
theorem dX8_isOrder_92 : decode cX8_isOrder 92 = .ok (.getfield 71, 3) := by decide +kernel
theorem dX8_isOrder_95 : decode cX8_isOrder 95 = .ok (.if_icmp .ne 7, 3) := by decide +kernel
theorem dX8_isOrder_98 : decode cX8_isOrder 98 = .ok (.iconst 1, 1) := by decide +kernel
theorem dX8_isOrder_99 : decode cX8_isOrder 99 = .ok (.goto 4, 3) := by decide +kernel
theorem dX8_isOrder_102 : decode cX8_isOrder 102 = .ok (.iconst 0, 1) := by decide +kernel
theorem dX8_isOrder_103 : decode cX8_isOrder 103 = .ok (.ireturn, 1) := by decide +kernel
set_option maxRecDepth 20000 in
theorem ggX8_pivot_X8_lays : GoodIn wsX8_pivot wsX8_lays := goodIn_r _ [9, 2, 4, 10, 11, 12, 8, 13, 1, 14, 15, 16, 17, 18, 19, 20, 21, 22, 23, 24, 25, 26, 27, 28, 29, 30, 31, 32, 33, 34, 35, 36, 37, 38, 39, 40, 41, 42, 43, 53, 54, 55, 56, 57, 58, 59, 60, 61, 62, 63, 64, 65, 66] (by decide +kernel) (by decide +kernel)
set_option maxRecDepth 20000 in
theorem gX8_pivot_X8_lays : GoodIn wsX8_pivot (wsV RX8 121 RX8 yX8_lays wsX8_lays) := goodIn_app (goodIn_of _ (by decide +kernel)) ggX8_pivot_X8_lays
set_option maxRecDepth 20000 in
theorem ggX8_pivot_X8_isOrder : GoodIn wsX8_pivot wsX8_isOrder := goodIn_r _ [47, 2, 3, 41, 42, 8, 43, 53, 54, 55, 56, 57, 58, 59, 60, 61, 62, 63, 64, 65, 66] (by decide +kernel) (by decide +kernel)
set_option maxRecDepth 20000 in
theorem gX8_pivot_X8_isOrder : GoodIn wsX8_pivot (wsV RX8 158 RX8 yX8_isOrder wsX8_isOrder) := goodIn_app (goodIn_of _ (by decide +kernel)) ggX8_pivot_X8_isOrder
set_option maxRecDepth 20000 in
theorem ggX8_pivot_X8_throwsAt : GoodIn wsX8_pivot wsX8_throwsAt := goodIn_r _ [51, 52, 53, 54, 55, 56, 57, 58, 59, 60, 61, 62, 63, 64, 65, 66] (by decide +kernel) (by decide +kernel)
set_option maxRecDepth 20000 in
theorem gX8_pivot_X8_throwsAt : GoodIn wsX8_pivot (wsV RX8 97 RX8 yX8_throwsAt wsX8_throwsAt) := goodIn_app (goodIn_of _ (by decide +kernel)) ggX8_pivot_X8_throwsAt
set_option maxRecDepth 20000 in
theorem ggX8_pivot_X8_ones : GoodIn wsX8_pivot wsX8_ones := goodIn_r _ [43] (by decide +kernel) (by decide +kernel)
set_option maxRecDepth 20000 in
theorem gX8_pivot_X8_ones : GoodIn wsX8_pivot (va_wsS RX8 54 yX8_ones wsX8_ones) := goodIn_app (goodIn_of _ (by decide +kernel)) ggX8_pivot_X8_ones
theorem dX8_pivot_0 : decode cX8_pivot 0 = .ok (.aload_n 0, 1) := by decide +kernel
theorem dX8_pivot_1 : decode cX8_pivot 1 = .ok (.aload_n 0, 1) := by decide +kernel
theorem dX8_pivot_2 : decode cX8_pivot 2 = .ok (.getfield 7, 3) := by decide +kernel
theorem dX8_pivot_5 : decode cX8_pivot 5 = .ok (.iconst 1, 1) := by decide +kernel
theorem dX8_pivot_6 : decode cX8_pivot 6 = .ok (.iaload, 1) := by decide +kernel
theorem dX8_pivot_7 : decode cX8_pivot 7 = .ok (.invokevirtual 121, 3) := by decide +kernel
theorem dX8_pivot_10 : decode cX8_pivot 10 = .ok (.aload_n 0, 1) := by decide +kernel
theorem dX8_pivot_11 : decode cX8_pivot 11 = .ok (.aload_n 0, 1) := by decide +kernel
theorem dX8_pivot_12 : decode cX8_pivot 12 = .ok (.iload_n 1, 1) := by decide +kernel
theorem dX8_pivot_13 : decode cX8_pivot 13 = .ok (.invokevirtual 158, 3) := by decide +kernel
theorem dX8_pivot_16 : decode cX8_pivot 16 = .ok (.ifCond .eq 7, 3) := by decide +kernel
theorem dX8_pivot_19 : decode cX8_pivot 19 = .ok (.iconst 0, 1) := by decide +kernel
theorem dX8_pivot_20 : decode cX8_pivot 20 = .ok (.goto 4, 3) := by decide +kernel
theorem dX8_pivot_23 : decode cX8_pivot 23 = .ok (.iconst 1, 1) := by decide +kernel
theorem dX8_pivot_24 : decode cX8_pivot 24 = .ok (.invokevirtual 97, 3) := by decide +kernel
theorem dX8_pivot_27 : decode cX8_pivot 27 = .ok (.ifCond .eq 5, 3) := by decide +kernel
theorem dX8_pivot_30 : decode cX8_pivot 30 = .ok (.iconst 0, 1) := by decide +kernel
theorem dX8_pivot_31 : decode cX8_pivot 31 = .ok (.ireturn, 1) := by decide +kernel
theorem dX8_pivot_32 : decode cX8_pivot 32 = .ok (.iconst 0, 1) := by decide +kernel
theorem dX8_pivot_33 : decode cX8_pivot 33 = .ok (.istore_n 2, 1) := by decide +kernel
theorem dX8_pivot_34 : decode cX8_pivot 34 = .ok (.iconst 0, 1) := by decide +kernel
theorem dX8_pivot_35 : decode cX8_pivot 35 = .ok (.istore_n 3, 1) := by decide +kernel
theorem dX8_pivot_36 : decode cX8_pivot 36 = .ok (.iload_n 3, 1) := by decide +kernel
theorem dX8_pivot_37 : decode cX8_pivot 37 = .ok (.aload_n 0, 1) := by decide +kernel
theorem dX8_pivot_38 : decode cX8_pivot 38 = .ok (.getfield 71, 3) := by decide +kernel
theorem dX8_pivot_41 : decode cX8_pivot 41 = .ok (.invokestatic 54, 3) := by decide +kernel
theorem dX8_pivot_44 : decode cX8_pivot 44 = .ok (.if_icmp .ge 36, 3) := by decide +kernel
theorem dX8_pivot_47 : decode cX8_pivot 47 = .ok (.iload_n 2, 1) := by decide +kernel
theorem dX8_pivot_48 : decode cX8_pivot 48 = .ok (.iconst 1, 1) := by decide +kernel
theorem dX8_pivot_49 : decode cX8_pivot 49 = .ok (.aload_n 0, 1) := by decide +kernel
theorem dX8_pivot_50 : decode cX8_pivot 50 = .ok (.getfield 23, 3) := by decide +kernel
theorem dX8_pivot_53 : decode cX8_pivot 53 = .ok (.iload_n 3, 1) := by decide +kernel
theorem dX8_pivot_54 : decode cX8_pivot 54 = .ok (.iaload, 1) := by decide +kernel
theorem dX8_pivot_55 : decode cX8_pivot 55 = .ok (.ishl, 1) := by decide +kernel
theorem dX8_pivot_56 : decode cX8_pivot 56 = .ok (.ior, 1) := by decide +kernel
theorem dX8_pivot_57 : decode cX8_pivot 57 = .ok (.istore_n 2, 1) := by decide +kernel
theorem dX8_pivot_58 : decode cX8_pivot 58 = .ok (.aload_n 0, 1) := by decide +kernel
theorem dX8_pivot_59 : decode cX8_pivot 59 = .ok (.getfield 19, 3) := by decide +kernel
theorem dX8_pivot_62 : decode cX8_pivot 62 = .ok (.iload_n 2, 1) := by decide +kernel
theorem dX8_pivot_63 : decode cX8_pivot 63 = .ok (.baload, 1) := by decide +kernel
theorem dX8_pivot_64 : decode cX8_pivot 64 = .ok (.ifCond .eq 10, 3) := by decide +kernel
theorem dX8_pivot_67 : decode cX8_pivot 67 = .ok (.aload_n 0, 1) := by decide +kernel
theorem dX8_pivot_68 : decode cX8_pivot 68 = .ok (.getfield 23, 3) := by decide +kernel
theorem dX8_pivot_71 : decode cX8_pivot 71 = .ok (.iload_n 3, 1) := by decide +kernel
theorem dX8_pivot_72 : decode cX8_pivot 72 = .ok (.iaload, 1) := by decide +kernel
theorem dX8_pivot_73 : decode cX8_pivot 73 = .ok (.ireturn, 1) := by decide +kernel
theorem dX8_pivot_74 : decode cX8_pivot 74 = .ok (.iinc 3 1, 3) := by decide +kernel
theorem dX8_pivot_77 : decode cX8_pivot 77 = .ok (.goto (-41), 3) := by decide +kernel
theorem dX8_pivot_80 : decode cX8_pivot 80 = .ok (.iconst (-1), 1) := by decide +kernel
theorem dX8_pivot_81 : decode cX8_pivot 81 = .ok (.ireturn, 1) := by decide +kernel
set_option maxRecDepth 20000 in
theorem ggX8_swingsWith_X8_isMember : GoodIn wsX8_swingsWith wsX8_isMember := goodIn_r _ [5, 6, 55, 56, 57, 58, 59, 60, 61, 62, 63, 64, 65, 66, 67, 68] (by decide +kernel) (by decide +kernel)
set_option maxRecDepth 20000 in
theorem gX8_swingsWith_X8_isMember : GoodIn wsX8_swingsWith (wsV RX8 43 RX8 yX8_isMember wsX8_isMember) := goodIn_app (goodIn_of _ (by decide +kernel)) ggX8_swingsWith_X8_isMember
set_option maxRecDepth 20000 in
theorem ggX8_swingsWith_X8_in : GoodIn wsX8_swingsWith wsX8_in := goodIn_r _ [9] (by decide +kernel) (by decide +kernel)
set_option maxRecDepth 20000 in
theorem gX8_swingsWith_X8_in : GoodIn wsX8_swingsWith (va_wsS RX8 93 yX8_in wsX8_in) := goodIn_app (goodIn_of _ (by decide +kernel)) ggX8_swingsWith_X8_in
set_option maxRecDepth 20000 in
theorem ggX8_swingsWith_X8_throwsAt : GoodIn wsX8_swingsWith wsX8_throwsAt := goodIn_r _ [13, 14, 55, 56, 57, 58, 59, 60, 61, 62, 63, 64, 65, 66, 67, 68] (by decide +kernel) (by decide +kernel)
set_option maxRecDepth 20000 in
theorem gX8_swingsWith_X8_throwsAt : GoodIn wsX8_swingsWith (wsV RX8 97 RX8 yX8_throwsAt wsX8_throwsAt) := goodIn_app (goodIn_of _ (by decide +kernel)) ggX8_swingsWith_X8_throwsAt
set_option maxRecDepth 20000 in
theorem ggX8_swingsWith_X8_lays : GoodIn wsX8_swingsWith wsX8_lays := goodIn_r _ [18, 19, 20, 21, 22, 23, 4, 24, 6, 25, 26, 27, 28, 1, 2, 3, 5, 29, 30, 31, 32, 33, 34, 35, 36, 37, 38, 39, 40, 41, 42, 43, 44, 45, 46, 47, 48, 49, 50, 55, 56, 57, 58, 59, 60, 61, 62, 63, 64, 65, 66, 67, 68] (by decide +kernel) (by decide +kernel)
set_option maxRecDepth 20000 in
theorem gX8_swingsWith_X8_lays : GoodIn wsX8_swingsWith (wsV RX8 121 RX8 yX8_lays wsX8_lays) := goodIn_app (goodIn_of _ (by decide +kernel)) ggX8_swingsWith_X8_lays
set_option maxRecDepth 20000 in
theorem ggX8_swingsWith_X8_swings : GoodIn wsX8_swingsWith wsX8_swings := goodIn_r _ [54, 20, 37, 38, 4, 39, 55, 56, 57, 58, 59, 60, 61, 62, 63, 64, 65, 66, 67, 68] (by decide +kernel) (by decide +kernel)
set_option maxRecDepth 20000 in
theorem gX8_swingsWith_X8_swings : GoodIn wsX8_swingsWith (wsV RX8 78 RX8 yX8_swings wsX8_swings) := goodIn_app (goodIn_of _ (by decide +kernel)) ggX8_swingsWith_X8_swings
theorem dX8_swingsWith_0 : decode cX8_swingsWith 0 = .ok (.aload_n 0, 1) := by decide +kernel
theorem dX8_swingsWith_1 : decode cX8_swingsWith 1 = .ok (.aload_n 0, 1) := by decide +kernel
theorem dX8_swingsWith_2 : decode cX8_swingsWith 2 = .ok (.iload_n 1, 1) := by decide +kernel
theorem dX8_swingsWith_3 : decode cX8_swingsWith 3 = .ok (.invokevirtual 43, 3) := by decide +kernel
theorem dX8_swingsWith_6 : decode cX8_swingsWith 6 = .ok (.ifCond .ne 7, 3) := by decide +kernel
theorem dX8_swingsWith_9 : decode cX8_swingsWith 9 = .ok (.iconst 1, 1) := by decide +kernel
theorem dX8_swingsWith_10 : decode cX8_swingsWith 10 = .ok (.goto 19, 3) := by decide +kernel
theorem dX8_swingsWith_13 : decode cX8_swingsWith 13 = .ok (.iload_n 2, 1) := by decide +kernel
theorem dX8_swingsWith_14 : decode cX8_swingsWith 14 = .ok (.iconst 1, 1) := by decide +kernel
theorem dX8_swingsWith_15 : decode cX8_swingsWith 15 = .ok (.sipush 400, 3) := by decide +kernel
theorem dX8_swingsWith_18 : decode cX8_swingsWith 18 = .ok (.invokestatic 93, 3) := by decide +kernel
theorem dX8_swingsWith_21 : decode cX8_swingsWith 21 = .ok (.ifCond .eq 7, 3) := by decide +kernel
theorem dX8_swingsWith_24 : decode cX8_swingsWith 24 = .ok (.iconst 0, 1) := by decide +kernel
theorem dX8_swingsWith_25 : decode cX8_swingsWith 25 = .ok (.goto 4, 3) := by decide +kernel
theorem dX8_swingsWith_28 : decode cX8_swingsWith 28 = .ok (.iconst 2, 1) := by decide +kernel
theorem dX8_swingsWith_29 : decode cX8_swingsWith 29 = .ok (.invokevirtual 97, 3) := by decide +kernel
theorem dX8_swingsWith_32 : decode cX8_swingsWith 32 = .ok (.ifCond .eq 5, 3) := by decide +kernel
theorem dX8_swingsWith_35 : decode cX8_swingsWith 35 = .ok (.iconst 0, 1) := by decide +kernel
theorem dX8_swingsWith_36 : decode cX8_swingsWith 36 = .ok (.ireturn, 1) := by decide +kernel
theorem dX8_swingsWith_37 : decode cX8_swingsWith 37 = .ok (.aload_n 0, 1) := by decide +kernel
theorem dX8_swingsWith_38 : decode cX8_swingsWith 38 = .ok (.iload_n 2, 1) := by decide +kernel
theorem dX8_swingsWith_39 : decode cX8_swingsWith 39 = .ok (.invokevirtual 121, 3) := by decide +kernel
theorem dX8_swingsWith_42 : decode cX8_swingsWith 42 = .ok (.aload_n 0, 1) := by decide +kernel
theorem dX8_swingsWith_43 : decode cX8_swingsWith 43 = .ok (.iload_n 1, 1) := by decide +kernel
theorem dX8_swingsWith_44 : decode cX8_swingsWith 44 = .ok (.invokevirtual 78, 3) := by decide +kernel
theorem dX8_swingsWith_47 : decode cX8_swingsWith 47 = .ok (.ireturn, 1) := by decide +kernel
set_option maxRecDepth 20000 in
theorem ggX8_bestQuota_X8_isMember : GoodIn wsX8_bestQuota wsX8_isMember := goodIn_r _ [5, 6, 56, 57, 58, 59, 60, 61, 62, 63, 64, 65, 66, 67, 68, 69] (by decide +kernel) (by decide +kernel)
set_option maxRecDepth 20000 in
theorem gX8_bestQuota_X8_isMember : GoodIn wsX8_bestQuota (wsV RX8 43 RX8 yX8_isMember wsX8_isMember) := goodIn_app (goodIn_of _ (by decide +kernel)) ggX8_bestQuota_X8_isMember
set_option maxRecDepth 20000 in
theorem ggX8_bestQuota_X8_throwsAt : GoodIn wsX8_bestQuota wsX8_throwsAt := goodIn_r _ [10, 11, 56, 57, 58, 59, 60, 61, 62, 63, 64, 65, 66, 67, 68, 69] (by decide +kernel) (by decide +kernel)
set_option maxRecDepth 20000 in
theorem gX8_bestQuota_X8_throwsAt : GoodIn wsX8_bestQuota (wsV RX8 97 RX8 yX8_throwsAt wsX8_throwsAt) := goodIn_app (goodIn_of _ (by decide +kernel)) ggX8_bestQuota_X8_throwsAt
set_option maxRecDepth 20000 in
theorem ggX8_bestQuota_X8_weightOf : GoodIn wsX8_bestQuota wsX8_weightOf := goodIn_r _ [15, 6, 16, 17, 4, 18, 56, 57, 58, 59, 60, 61, 62, 63, 64, 65, 66, 67, 68, 69] (by decide +kernel) (by decide +kernel)
set_option maxRecDepth 20000 in
theorem gX8_bestQuota_X8_weightOf : GoodIn wsX8_bestQuota (wsV RX8 61 RX8 yX8_weightOf wsX8_weightOf) := goodIn_app (goodIn_of _ (by decide +kernel)) ggX8_bestQuota_X8_weightOf
set_option maxRecDepth 20000 in
theorem ggX8_bestQuota_X8_lays : GoodIn wsX8_bestQuota wsX8_lays := goodIn_r _ [22, 23, 24, 25, 26, 27, 4, 28, 6, 29, 30, 31, 32, 1, 2, 3, 5, 33, 34, 35, 36, 37, 38, 39, 40, 16, 17, 18, 12, 13, 14, 15, 41, 42, 43, 44, 45, 46, 47, 56, 57, 58, 59, 60, 61, 62, 63, 64, 65, 66, 67, 68, 69] (by decide +kernel) (by decide +kernel)
set_option maxRecDepth 20000 in
theorem gX8_bestQuota_X8_lays : GoodIn wsX8_bestQuota (wsV RX8 121 RX8 yX8_lays wsX8_lays) := goodIn_app (goodIn_of _ (by decide +kernel)) ggX8_bestQuota_X8_lays
set_option maxRecDepth 20000 in
theorem ggX8_bestQuota_X8_swings : GoodIn wsX8_bestQuota wsX8_swings := goodIn_r _ [51, 24, 16, 17, 4, 18, 56, 57, 58, 59, 60, 61, 62, 63, 64, 65, 66, 67, 68, 69] (by decide +kernel) (by decide +kernel)
set_option maxRecDepth 20000 in
theorem gX8_bestQuota_X8_swings : GoodIn wsX8_bestQuota (wsV RX8 78 RX8 yX8_swings wsX8_swings) := goodIn_app (goodIn_of _ (by decide +kernel)) ggX8_bestQuota_X8_swings
set_option maxRecDepth 20000 in
theorem ggX8_bestQuota_X8_allSwings : GoodIn wsX8_bestQuota wsX8_allSwings := goodIn_r _ [55, 48, 49, 50, 4, 51, 24, 16, 17, 18, 56, 57, 58, 59, 60, 61, 62, 63, 64, 65, 66, 67, 68, 69] (by decide +kernel) (by decide +kernel)
set_option maxRecDepth 20000 in
theorem gX8_bestQuota_X8_allSwings : GoodIn wsX8_bestQuota (wsV RX8 87 RX8 yX8_allSwings wsX8_allSwings) := goodIn_app (goodIn_of _ (by decide +kernel)) ggX8_bestQuota_X8_allSwings
theorem dX8_bestQuota_0 : decode cX8_bestQuota 0 = .ok (.aload_n 0, 1) := by decide +kernel
theorem dX8_bestQuota_1 : decode cX8_bestQuota 1 = .ok (.aload_n 0, 1) := by decide +kernel
theorem dX8_bestQuota_2 : decode cX8_bestQuota 2 = .ok (.iload_n 1, 1) := by decide +kernel
theorem dX8_bestQuota_3 : decode cX8_bestQuota 3 = .ok (.invokevirtual 43, 3) := by decide +kernel
theorem dX8_bestQuota_6 : decode cX8_bestQuota 6 = .ok (.ifCond .eq 7, 3) := by decide +kernel
theorem dX8_bestQuota_9 : decode cX8_bestQuota 9 = .ok (.iconst 0, 1) := by decide +kernel
theorem dX8_bestQuota_10 : decode cX8_bestQuota 10 = .ok (.goto 4, 3) := by decide +kernel
theorem dX8_bestQuota_13 : decode cX8_bestQuota 13 = .ok (.iconst 1, 1) := by decide +kernel
theorem dX8_bestQuota_14 : decode cX8_bestQuota 14 = .ok (.invokevirtual 97, 3) := by decide +kernel
theorem dX8_bestQuota_17 : decode cX8_bestQuota 17 = .ok (.ifCond .eq 5, 3) := by decide +kernel
theorem dX8_bestQuota_20 : decode cX8_bestQuota 20 = .ok (.iconst 0, 1) := by decide +kernel
theorem dX8_bestQuota_21 : decode cX8_bestQuota 21 = .ok (.ireturn, 1) := by decide +kernel
theorem dX8_bestQuota_22 : decode cX8_bestQuota 22 = .ok (.iconst (-1), 1) := by decide +kernel
theorem dX8_bestQuota_23 : decode cX8_bestQuota 23 = .ok (.istore_n 2, 1) := by decide +kernel
theorem dX8_bestQuota_24 : decode cX8_bestQuota 24 = .ok (.iconst 0, 1) := by decide +kernel
theorem dX8_bestQuota_25 : decode cX8_bestQuota 25 = .ok (.istore_n 3, 1) := by decide +kernel
theorem dX8_bestQuota_26 : decode cX8_bestQuota 26 = .ok (.iconst 1, 1) := by decide +kernel
theorem dX8_bestQuota_27 : decode cX8_bestQuota 27 = .ok (.istore 4, 2) := by decide +kernel
theorem dX8_bestQuota_29 : decode cX8_bestQuota 29 = .ok (.aload_n 0, 1) := by decide +kernel
theorem dX8_bestQuota_30 : decode cX8_bestQuota 30 = .ok (.sipush 255, 3) := by decide +kernel
theorem dX8_bestQuota_33 : decode cX8_bestQuota 33 = .ok (.invokevirtual 61, 3) := by decide +kernel
theorem dX8_bestQuota_36 : decode cX8_bestQuota 36 = .ok (.istore 5, 2) := by decide +kernel
theorem dX8_bestQuota_38 : decode cX8_bestQuota 38 = .ok (.iconst 1, 1) := by decide +kernel
theorem dX8_bestQuota_39 : decode cX8_bestQuota 39 = .ok (.istore 6, 2) := by decide +kernel
theorem dX8_bestQuota_41 : decode cX8_bestQuota 41 = .ok (.iload 6, 2) := by decide +kernel
theorem dX8_bestQuota_43 : decode cX8_bestQuota 43 = .ok (.iload 5, 2) := by decide +kernel
theorem dX8_bestQuota_45 : decode cX8_bestQuota 45 = .ok (.if_icmp .gt 85, 3) := by decide +kernel
theorem dX8_bestQuota_48 : decode cX8_bestQuota 48 = .ok (.aload_n 0, 1) := by decide +kernel
theorem dX8_bestQuota_49 : decode cX8_bestQuota 49 = .ok (.iload 6, 2) := by decide +kernel
theorem dX8_bestQuota_51 : decode cX8_bestQuota 51 = .ok (.invokevirtual 121, 3) := by decide +kernel
theorem dX8_bestQuota_54 : decode cX8_bestQuota 54 = .ok (.aload_n 0, 1) := by decide +kernel
theorem dX8_bestQuota_55 : decode cX8_bestQuota 55 = .ok (.iload_n 1, 1) := by decide +kernel
theorem dX8_bestQuota_56 : decode cX8_bestQuota 56 = .ok (.invokevirtual 78, 3) := by decide +kernel
theorem dX8_bestQuota_59 : decode cX8_bestQuota 59 = .ok (.istore 7, 2) := by decide +kernel
theorem dX8_bestQuota_61 : decode cX8_bestQuota 61 = .ok (.aload_n 0, 1) := by decide +kernel
theorem dX8_bestQuota_62 : decode cX8_bestQuota 62 = .ok (.invokevirtual 87, 3) := by decide +kernel
theorem dX8_bestQuota_65 : decode cX8_bestQuota 65 = .ok (.istore 8, 2) := by decide +kernel
theorem dX8_bestQuota_67 : decode cX8_bestQuota 67 = .ok (.iload 7, 2) := by decide +kernel
theorem dX8_bestQuota_69 : decode cX8_bestQuota 69 = .ok (.iload 4, 2) := by decide +kernel
theorem dX8_bestQuota_71 : decode cX8_bestQuota 71 = .ok (.imul, 1) := by decide +kernel
theorem dX8_bestQuota_72 : decode cX8_bestQuota 72 = .ok (.iload_n 3, 1) := by decide +kernel
theorem dX8_bestQuota_73 : decode cX8_bestQuota 73 = .ok (.iload 8, 2) := by decide +kernel
theorem dX8_bestQuota_75 : decode cX8_bestQuota 75 = .ok (.imul, 1) := by decide +kernel
theorem dX8_bestQuota_76 : decode cX8_bestQuota 76 = .ok (.if_icmp .le 7, 3) := by decide +kernel
theorem dX8_bestQuota_79 : decode cX8_bestQuota 79 = .ok (.iconst 1, 1) := by decide +kernel
theorem dX8_bestQuota_80 : decode cX8_bestQuota 80 = .ok (.goto 4, 3) := by decide +kernel
theorem dX8_bestQuota_83 : decode cX8_bestQuota 83 = .ok (.iconst 0, 1) := by decide +kernel
theorem dX8_bestQuota_84 : decode cX8_bestQuota 84 = .ok (.istore 9, 2) := by decide +kernel
theorem dX8_bestQuota_86 : decode cX8_bestQuota 86 = .ok (.iload 9, 2) := by decide +kernel
theorem dX8_bestQuota_88 : decode cX8_bestQuota 88 = .ok (.ifCond .eq 8, 3) := by decide +kernel
theorem dX8_bestQuota_91 : decode cX8_bestQuota 91 = .ok (.iload 6, 2) := by decide +kernel
theorem dX8_bestQuota_93 : decode cX8_bestQuota 93 = .ok (.goto 4, 3) := by decide +kernel
theorem dX8_bestQuota_96 : decode cX8_bestQuota 96 = .ok (.iload_n 2, 1) := by decide +kernel
theorem dX8_bestQuota_97 : decode cX8_bestQuota 97 = .ok (.istore_n 2, 1) := by decide +kernel
theorem dX8_bestQuota_98 : decode cX8_bestQuota 98 = .ok (.iload 9, 2) := by decide +kernel
theorem dX8_bestQuota_100 : decode cX8_bestQuota 100 = .ok (.ifCond .eq 8, 3) := by decide +kernel
theorem dX8_bestQuota_103 : decode cX8_bestQuota 103 = .ok (.iload 7, 2) := by decide +kernel
theorem dX8_bestQuota_105 : decode cX8_bestQuota 105 = .ok (.goto 4, 3) := by decide +kernel
theorem dX8_bestQuota_108 : decode cX8_bestQuota 108 = .ok (.iload_n 3, 1) := by decide +kernel
theorem dX8_bestQuota_109 : decode cX8_bestQuota 109 = .ok (.istore_n 3, 1) := by decide +kernel
theorem dX8_bestQuota_110 : decode cX8_bestQuota 110 = .ok (.iload 9, 2) := by decide +kernel
theorem dX8_bestQuota_112 : decode cX8_bestQuota 112 = .ok (.ifCond .eq 8, 3) := by decide +kernel
theorem dX8_bestQuota_115 : decode cX8_bestQuota 115 = .ok (.iload 8, 2) := by decide +kernel
theorem dX8_bestQuota_117 : decode cX8_bestQuota 117 = .ok (.goto 5, 3) := by decide +kernel
theorem dX8_bestQuota_120 : decode cX8_bestQuota 120 = .ok (.iload 4, 2) := by decide +kernel
theorem dX8_bestQuota_122 : decode cX8_bestQuota 122 = .ok (.istore 4, 2) := by decide +kernel
theorem dX8_bestQuota_124 : decode cX8_bestQuota 124 = .ok (.iinc 6 1, 3) := by decide +kernel
theorem dX8_bestQuota_127 : decode cX8_bestQuota 127 = .ok (.goto (-86), 3) := by decide +kernel
theorem dX8_bestQuota_130 : decode cX8_bestQuota 130 = .ok (.iload_n 2, 1) := by decide +kernel
theorem dX8_bestQuota_131 : decode cX8_bestQuota 131 = .ok (.ireturn, 1) := by decide +kernel
set_option maxRecDepth 20000 in
theorem ggX8_dummiesWith_X8_in : GoodIn wsX8_dummiesWith wsX8_in := goodIn_r _ [4] (by decide +kernel) (by decide +kernel)
set_option maxRecDepth 20000 in
theorem gX8_dummiesWith_X8_in : GoodIn wsX8_dummiesWith (va_wsS RX8 93 yX8_in wsX8_in) := goodIn_app (goodIn_of _ (by decide +kernel)) ggX8_dummiesWith_X8_in
set_option maxRecDepth 20000 in
theorem ggX8_dummiesWith_X8_throwsAt : GoodIn wsX8_dummiesWith wsX8_throwsAt := goodIn_r _ [8, 9, 59, 60, 61, 62, 63, 64, 65, 66, 67, 68, 69, 70, 71, 72] (by decide +kernel) (by decide +kernel)
set_option maxRecDepth 20000 in
theorem gX8_dummiesWith_X8_throwsAt : GoodIn wsX8_dummiesWith (wsV RX8 97 RX8 yX8_throwsAt wsX8_throwsAt) := goodIn_app (goodIn_of _ (by decide +kernel)) ggX8_dummiesWith_X8_throwsAt
set_option maxRecDepth 20000 in
theorem ggX8_dummiesWith_X8_lays : GoodIn wsX8_dummiesWith wsX8_lays := goodIn_r _ [13, 14, 15, 16, 17, 18, 3, 19, 20, 21, 22, 23, 24, 25, 26, 27, 28, 29, 30, 31, 32, 33, 34, 35, 36, 37, 38, 39, 40, 41, 42, 43, 44, 45, 46, 47, 48, 49, 50, 59, 60, 61, 62, 63, 64, 65, 66, 67, 68, 69, 70, 71, 72] (by decide +kernel) (by decide +kernel)
set_option maxRecDepth 20000 in
theorem gX8_dummiesWith_X8_lays : GoodIn wsX8_dummiesWith (wsV RX8 121 RX8 yX8_lays wsX8_lays) := goodIn_app (goodIn_of _ (by decide +kernel)) ggX8_dummiesWith_X8_lays
set_option maxRecDepth 20000 in
theorem ggX8_dummiesWith_X8_dummies : GoodIn wsX8_dummiesWith wsX8_dummies := goodIn_r _ [54, 20, 21, 22, 23, 3, 24, 25, 26, 27, 28, 55, 56, 57, 58, 15, 37, 38, 39, 59, 60, 61, 62, 63, 64, 65, 66, 67, 68, 69, 70, 71, 72] (by decide +kernel) (by decide +kernel)
set_option maxRecDepth 20000 in
theorem gX8_dummiesWith_X8_dummies : GoodIn wsX8_dummiesWith (wsV RX8 115 RX8 yX8_dummies wsX8_dummies) := goodIn_app (goodIn_of _ (by decide +kernel)) ggX8_dummiesWith_X8_dummies
theorem dX8_dummiesWith_0 : decode cX8_dummiesWith 0 = .ok (.aload_n 0, 1) := by decide +kernel
theorem dX8_dummiesWith_1 : decode cX8_dummiesWith 1 = .ok (.iload_n 1, 1) := by decide +kernel
theorem dX8_dummiesWith_2 : decode cX8_dummiesWith 2 = .ok (.iconst 1, 1) := by decide +kernel
theorem dX8_dummiesWith_3 : decode cX8_dummiesWith 3 = .ok (.sipush 400, 3) := by decide +kernel
theorem dX8_dummiesWith_6 : decode cX8_dummiesWith 6 = .ok (.invokestatic 93, 3) := by decide +kernel
theorem dX8_dummiesWith_9 : decode cX8_dummiesWith 9 = .ok (.ifCond .eq 7, 3) := by decide +kernel
theorem dX8_dummiesWith_12 : decode cX8_dummiesWith 12 = .ok (.iconst 0, 1) := by decide +kernel
theorem dX8_dummiesWith_13 : decode cX8_dummiesWith 13 = .ok (.goto 4, 3) := by decide +kernel
theorem dX8_dummiesWith_16 : decode cX8_dummiesWith 16 = .ok (.iconst 1, 1) := by decide +kernel
theorem dX8_dummiesWith_17 : decode cX8_dummiesWith 17 = .ok (.invokevirtual 97, 3) := by decide +kernel
theorem dX8_dummiesWith_20 : decode cX8_dummiesWith 20 = .ok (.ifCond .eq 5, 3) := by decide +kernel
theorem dX8_dummiesWith_23 : decode cX8_dummiesWith 23 = .ok (.iconst 0, 1) := by decide +kernel
theorem dX8_dummiesWith_24 : decode cX8_dummiesWith 24 = .ok (.ireturn, 1) := by decide +kernel
theorem dX8_dummiesWith_25 : decode cX8_dummiesWith 25 = .ok (.aload_n 0, 1) := by decide +kernel
theorem dX8_dummiesWith_26 : decode cX8_dummiesWith 26 = .ok (.iload_n 1, 1) := by decide +kernel
theorem dX8_dummiesWith_27 : decode cX8_dummiesWith 27 = .ok (.invokevirtual 121, 3) := by decide +kernel
theorem dX8_dummiesWith_30 : decode cX8_dummiesWith 30 = .ok (.aload_n 0, 1) := by decide +kernel
theorem dX8_dummiesWith_31 : decode cX8_dummiesWith 31 = .ok (.invokevirtual 115, 3) := by decide +kernel
theorem dX8_dummiesWith_34 : decode cX8_dummiesWith 34 = .ok (.ireturn, 1) := by decide +kernel
set_option maxRecDepth 20000 in
theorem ggX8_leastWeight_X8_isMember : GoodIn wsX8_leastWeight wsX8_isMember := goodIn_r _ [6, 1, 52, 53, 54, 55, 56, 57, 58, 59, 60, 61, 62, 63, 64, 65] (by decide +kernel) (by decide +kernel)
set_option maxRecDepth 20000 in
theorem gX8_leastWeight_X8_isMember : GoodIn wsX8_leastWeight (wsV RX8 43 RX8 yX8_isMember wsX8_isMember) := goodIn_app (goodIn_of _ (by decide +kernel)) ggX8_leastWeight_X8_isMember
set_option maxRecDepth 20000 in
theorem ggX8_leastWeight_X8_throwsAt : GoodIn wsX8_leastWeight wsX8_throwsAt := goodIn_r _ [10, 11, 52, 53, 54, 55, 56, 57, 58, 59, 60, 61, 62, 63, 64, 65] (by decide +kernel) (by decide +kernel)
set_option maxRecDepth 20000 in
theorem gX8_leastWeight_X8_throwsAt : GoodIn wsX8_leastWeight (wsV RX8 97 RX8 yX8_throwsAt wsX8_throwsAt) := goodIn_app (goodIn_of _ (by decide +kernel)) ggX8_leastWeight_X8_throwsAt
set_option maxRecDepth 20000 in
theorem ggX8_leastWeight_X8_isPlayer : GoodIn wsX8_leastWeight wsX8_isPlayer := goodIn_r _ [15, 1, 2, 3, 4, 5, 6, 52, 53, 54, 55, 56, 57, 58, 59, 60, 61, 62, 63, 64, 65] (by decide +kernel) (by decide +kernel)
set_option maxRecDepth 20000 in
theorem gX8_leastWeight_X8_isPlayer : GoodIn wsX8_leastWeight (wsV RX8 47 RX8 yX8_isPlayer wsX8_isPlayer) := goodIn_app (goodIn_of _ (by decide +kernel)) ggX8_leastWeight_X8_isPlayer
set_option maxRecDepth 20000 in
theorem ggX8_leastWeight_X8_lays : GoodIn wsX8_leastWeight wsX8_lays := goodIn_r _ [19, 20, 21, 22, 23, 24, 5, 25, 1, 12, 13, 14, 15, 2, 3, 4, 6, 26, 27, 28, 29, 30, 31, 32, 33, 34, 35, 36, 37, 38, 39, 40, 41, 42, 43, 44, 45, 46, 47, 52, 53, 54, 55, 56, 57, 58, 59, 60, 61, 62, 63, 64, 65] (by decide +kernel) (by decide +kernel)
set_option maxRecDepth 20000 in
theorem gX8_leastWeight_X8_lays : GoodIn wsX8_leastWeight (wsV RX8 121 RX8 yX8_lays wsX8_lays) := goodIn_app (goodIn_of _ (by decide +kernel)) ggX8_leastWeight_X8_lays
set_option maxRecDepth 20000 in
theorem ggX8_leastWeight_X8_swings : GoodIn wsX8_leastWeight wsX8_swings := goodIn_r _ [51, 21, 34, 35, 5, 36, 52, 53, 54, 55, 56, 57, 58, 59, 60, 61, 62, 63, 64, 65] (by decide +kernel) (by decide +kernel)
set_option maxRecDepth 20000 in
theorem gX8_leastWeight_X8_swings : GoodIn wsX8_leastWeight (wsV RX8 78 RX8 yX8_swings wsX8_swings) := goodIn_app (goodIn_of _ (by decide +kernel)) ggX8_leastWeight_X8_swings
theorem dX8_leastWeight_0 : decode cX8_leastWeight 0 = .ok (.aload_n 0, 1) := by decide +kernel
theorem dX8_leastWeight_1 : decode cX8_leastWeight 1 = .ok (.aload_n 0, 1) := by decide +kernel
theorem dX8_leastWeight_2 : decode cX8_leastWeight 2 = .ok (.iload_n 1, 1) := by decide +kernel
theorem dX8_leastWeight_3 : decode cX8_leastWeight 3 = .ok (.invokevirtual 43, 3) := by decide +kernel
theorem dX8_leastWeight_6 : decode cX8_leastWeight 6 = .ok (.ifCond .eq 7, 3) := by decide +kernel
theorem dX8_leastWeight_9 : decode cX8_leastWeight 9 = .ok (.iconst 0, 1) := by decide +kernel
theorem dX8_leastWeight_10 : decode cX8_leastWeight 10 = .ok (.goto 4, 3) := by decide +kernel
theorem dX8_leastWeight_13 : decode cX8_leastWeight 13 = .ok (.iconst 1, 1) := by decide +kernel
theorem dX8_leastWeight_14 : decode cX8_leastWeight 14 = .ok (.invokevirtual 97, 3) := by decide +kernel
theorem dX8_leastWeight_17 : decode cX8_leastWeight 17 = .ok (.ifCond .eq 5, 3) := by decide +kernel
theorem dX8_leastWeight_20 : decode cX8_leastWeight 20 = .ok (.iconst 0, 1) := by decide +kernel
theorem dX8_leastWeight_21 : decode cX8_leastWeight 21 = .ok (.ireturn, 1) := by decide +kernel
theorem dX8_leastWeight_22 : decode cX8_leastWeight 22 = .ok (.aload_n 0, 1) := by decide +kernel
theorem dX8_leastWeight_23 : decode cX8_leastWeight 23 = .ok (.getfield 7, 3) := by decide +kernel
theorem dX8_leastWeight_26 : decode cX8_leastWeight 26 = .ok (.iconst 3, 1) := by decide +kernel
theorem dX8_leastWeight_27 : decode cX8_leastWeight 27 = .ok (.iload_n 1, 1) := by decide +kernel
theorem dX8_leastWeight_28 : decode cX8_leastWeight 28 = .ok (.iadd, 1) := by decide +kernel
theorem dX8_leastWeight_29 : decode cX8_leastWeight 29 = .ok (.iaload, 1) := by decide +kernel
theorem dX8_leastWeight_30 : decode cX8_leastWeight 30 = .ok (.istore_n 2, 1) := by decide +kernel
theorem dX8_leastWeight_31 : decode cX8_leastWeight 31 = .ok (.iconst (-1), 1) := by decide +kernel
theorem dX8_leastWeight_32 : decode cX8_leastWeight 32 = .ok (.istore_n 3, 1) := by decide +kernel
theorem dX8_leastWeight_33 : decode cX8_leastWeight 33 = .ok (.iconst 0, 1) := by decide +kernel
theorem dX8_leastWeight_34 : decode cX8_leastWeight 34 = .ok (.istore 4, 2) := by decide +kernel
theorem dX8_leastWeight_36 : decode cX8_leastWeight 36 = .ok (.iload 4, 2) := by decide +kernel
theorem dX8_leastWeight_38 : decode cX8_leastWeight 38 = .ok (.bipush 50, 2) := by decide +kernel
theorem dX8_leastWeight_40 : decode cX8_leastWeight 40 = .ok (.if_icmp .gt 57, 3) := by decide +kernel
theorem dX8_leastWeight_43 : decode cX8_leastWeight 43 = .ok (.iload_n 3, 1) := by decide +kernel
theorem dX8_leastWeight_44 : decode cX8_leastWeight 44 = .ok (.iconst (-1), 1) := by decide +kernel
theorem dX8_leastWeight_45 : decode cX8_leastWeight 45 = .ok (.if_icmp .ne 52, 3) := by decide +kernel
theorem dX8_leastWeight_48 : decode cX8_leastWeight 48 = .ok (.aload_n 0, 1) := by decide +kernel
theorem dX8_leastWeight_49 : decode cX8_leastWeight 49 = .ok (.iload_n 1, 1) := by decide +kernel
theorem dX8_leastWeight_50 : decode cX8_leastWeight 50 = .ok (.invokevirtual 47, 3) := by decide +kernel
theorem dX8_leastWeight_53 : decode cX8_leastWeight 53 = .ok (.ifCond .eq 44, 3) := by decide +kernel
theorem dX8_leastWeight_56 : decode cX8_leastWeight 56 = .ok (.aload_n 0, 1) := by decide +kernel
theorem dX8_leastWeight_57 : decode cX8_leastWeight 57 = .ok (.getfield 7, 3) := by decide +kernel
theorem dX8_leastWeight_60 : decode cX8_leastWeight 60 = .ok (.iconst 3, 1) := by decide +kernel
theorem dX8_leastWeight_61 : decode cX8_leastWeight 61 = .ok (.iload_n 1, 1) := by decide +kernel
theorem dX8_leastWeight_62 : decode cX8_leastWeight 62 = .ok (.iadd, 1) := by decide +kernel
theorem dX8_leastWeight_63 : decode cX8_leastWeight 63 = .ok (.iload 4, 2) := by decide +kernel
theorem dX8_leastWeight_65 : decode cX8_leastWeight 65 = .ok (.iastore, 1) := by decide +kernel
theorem dX8_leastWeight_66 : decode cX8_leastWeight 66 = .ok (.aload_n 0, 1) := by decide +kernel
theorem dX8_leastWeight_67 : decode cX8_leastWeight 67 = .ok (.aload_n 0, 1) := by decide +kernel
theorem dX8_leastWeight_68 : decode cX8_leastWeight 68 = .ok (.getfield 7, 3) := by decide +kernel
theorem dX8_leastWeight_71 : decode cX8_leastWeight 71 = .ok (.iconst 1, 1) := by decide +kernel
theorem dX8_leastWeight_72 : decode cX8_leastWeight 72 = .ok (.iaload, 1) := by decide +kernel
theorem dX8_leastWeight_73 : decode cX8_leastWeight 73 = .ok (.invokevirtual 121, 3) := by decide +kernel
theorem dX8_leastWeight_76 : decode cX8_leastWeight 76 = .ok (.aload_n 0, 1) := by decide +kernel
theorem dX8_leastWeight_77 : decode cX8_leastWeight 77 = .ok (.iload_n 1, 1) := by decide +kernel
theorem dX8_leastWeight_78 : decode cX8_leastWeight 78 = .ok (.invokevirtual 78, 3) := by decide +kernel
theorem dX8_leastWeight_81 : decode cX8_leastWeight 81 = .ok (.ifCond .le 8, 3) := by decide +kernel
theorem dX8_leastWeight_84 : decode cX8_leastWeight 84 = .ok (.iload 4, 2) := by decide +kernel
theorem dX8_leastWeight_86 : decode cX8_leastWeight 86 = .ok (.goto 4, 3) := by decide +kernel
theorem dX8_leastWeight_89 : decode cX8_leastWeight 89 = .ok (.iconst (-1), 1) := by decide +kernel
theorem dX8_leastWeight_90 : decode cX8_leastWeight 90 = .ok (.istore_n 3, 1) := by decide +kernel
theorem dX8_leastWeight_91 : decode cX8_leastWeight 91 = .ok (.iinc 4 1, 3) := by decide +kernel
theorem dX8_leastWeight_94 : decode cX8_leastWeight 94 = .ok (.goto (-58), 3) := by decide +kernel
theorem dX8_leastWeight_97 : decode cX8_leastWeight 97 = .ok (.aload_n 0, 1) := by decide +kernel
theorem dX8_leastWeight_98 : decode cX8_leastWeight 98 = .ok (.getfield 7, 3) := by decide +kernel
theorem dX8_leastWeight_101 : decode cX8_leastWeight 101 = .ok (.iconst 3, 1) := by decide +kernel
theorem dX8_leastWeight_102 : decode cX8_leastWeight 102 = .ok (.iload_n 1, 1) := by decide +kernel
theorem dX8_leastWeight_103 : decode cX8_leastWeight 103 = .ok (.iadd, 1) := by decide +kernel
theorem dX8_leastWeight_104 : decode cX8_leastWeight 104 = .ok (.iload_n 2, 1) := by decide +kernel
theorem dX8_leastWeight_105 : decode cX8_leastWeight 105 = .ok (.iastore, 1) := by decide +kernel
theorem dX8_leastWeight_106 : decode cX8_leastWeight 106 = .ok (.iload_n 3, 1) := by decide +kernel
theorem dX8_leastWeight_107 : decode cX8_leastWeight 107 = .ok (.ireturn, 1) := by decide +kernel
set_option maxRecDepth 20000 in
theorem ggX8_wrongTwo_X8_isMember : GoodIn wsX8_wrongTwo wsX8_isMember := goodIn_r _ [5, 6, 11, 12, 13, 14, 15, 16, 17, 18, 19, 20, 21, 22, 23, 24] (by decide +kernel) (by decide +kernel)
set_option maxRecDepth 20000 in
theorem gX8_wrongTwo_X8_isMember : GoodIn wsX8_wrongTwo (wsV RX8 43 RX8 yX8_isMember wsX8_isMember) := goodIn_app (goodIn_of _ (by decide +kernel)) ggX8_wrongTwo_X8_isMember
set_option maxRecDepth 20000 in
theorem ggX8_wrongTwo_X8_isPlayer : GoodIn wsX8_wrongTwo wsX8_isPlayer := goodIn_r _ [10, 6, 1, 2, 3, 4, 5, 11, 12, 13, 14, 15, 16, 17, 18, 19, 20, 21, 22, 23, 24] (by decide +kernel) (by decide +kernel)
set_option maxRecDepth 20000 in
theorem gX8_wrongTwo_X8_isPlayer : GoodIn wsX8_wrongTwo (wsV RX8 47 RX8 yX8_isPlayer wsX8_isPlayer) := goodIn_app (goodIn_of _ (by decide +kernel)) ggX8_wrongTwo_X8_isPlayer
theorem dX8_wrongTwo_0 : decode cX8_wrongTwo 0 = .ok (.aload_n 0, 1) := by decide +kernel
theorem dX8_wrongTwo_1 : decode cX8_wrongTwo 1 = .ok (.iload_n 1, 1) := by decide +kernel
theorem dX8_wrongTwo_2 : decode cX8_wrongTwo 2 = .ok (.invokevirtual 43, 3) := by decide +kernel
theorem dX8_wrongTwo_5 : decode cX8_wrongTwo 5 = .ok (.ifCond .eq 11, 3) := by decide +kernel
theorem dX8_wrongTwo_8 : decode cX8_wrongTwo 8 = .ok (.aload_n 0, 1) := by decide +kernel
theorem dX8_wrongTwo_9 : decode cX8_wrongTwo 9 = .ok (.iload_n 2, 1) := by decide +kernel
theorem dX8_wrongTwo_10 : decode cX8_wrongTwo 10 = .ok (.invokevirtual 43, 3) := by decide +kernel
theorem dX8_wrongTwo_13 : decode cX8_wrongTwo 13 = .ok (.ifCond .ne 5, 3) := by decide +kernel
theorem dX8_wrongTwo_16 : decode cX8_wrongTwo 16 = .ok (.iconst 1, 1) := by decide +kernel
theorem dX8_wrongTwo_17 : decode cX8_wrongTwo 17 = .ok (.ireturn, 1) := by decide +kernel
theorem dX8_wrongTwo_18 : decode cX8_wrongTwo 18 = .ok (.iload_n 1, 1) := by decide +kernel
theorem dX8_wrongTwo_19 : decode cX8_wrongTwo 19 = .ok (.iload_n 2, 1) := by decide +kernel
theorem dX8_wrongTwo_20 : decode cX8_wrongTwo 20 = .ok (.if_icmp .eq 19, 3) := by decide +kernel
theorem dX8_wrongTwo_23 : decode cX8_wrongTwo 23 = .ok (.aload_n 0, 1) := by decide +kernel
theorem dX8_wrongTwo_24 : decode cX8_wrongTwo 24 = .ok (.iload_n 1, 1) := by decide +kernel
theorem dX8_wrongTwo_25 : decode cX8_wrongTwo 25 = .ok (.invokevirtual 47, 3) := by decide +kernel
theorem dX8_wrongTwo_28 : decode cX8_wrongTwo 28 = .ok (.ifCond .eq 11, 3) := by decide +kernel
theorem dX8_wrongTwo_31 : decode cX8_wrongTwo 31 = .ok (.aload_n 0, 1) := by decide +kernel
theorem dX8_wrongTwo_32 : decode cX8_wrongTwo 32 = .ok (.iload_n 2, 1) := by decide +kernel
theorem dX8_wrongTwo_33 : decode cX8_wrongTwo 33 = .ok (.invokevirtual 47, 3) := by decide +kernel
theorem dX8_wrongTwo_36 : decode cX8_wrongTwo 36 = .ok (.ifCond .ne 7, 3) := by decide +kernel
theorem dX8_wrongTwo_39 : decode cX8_wrongTwo 39 = .ok (.iconst 2, 1) := by decide +kernel
theorem dX8_wrongTwo_40 : decode cX8_wrongTwo 40 = .ok (.goto 4, 3) := by decide +kernel
theorem dX8_wrongTwo_43 : decode cX8_wrongTwo 43 = .ok (.iconst 0, 1) := by decide +kernel
