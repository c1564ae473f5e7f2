theorem dX6_wholeValue_53 : decode cX6_wholeValue 53 = .ok (.ireturn, 1) := by decide +kernel
theorem dX6_wholeValue_54 : decode cX6_wholeValue 54 = .ok (.aload_n 0, 1) := by decide +kernel
theorem dX6_wholeValue_55 : decode cX6_wholeValue 55 = .ok (.getfield 40, 3) := by decide +kernel
theorem dX6_wholeValue_58 : decode cX6_wholeValue 58 = .ok (.ireturn, 1) := by decide +kernel
theorem dX6_wholeValue_59 : decode cX6_wholeValue 59 = .ok (.aload_n 0, 1) := by decide +kernel
theorem dX6_wholeValue_60 : decode cX6_wholeValue 60 = .ok (.aload_n 0, 1) := by decide +kernel
theorem dX6_wholeValue_61 : decode cX6_wholeValue 61 = .ok (.invokevirtual 115, 3) := by decide +kernel
theorem dX6_wholeValue_64 : decode cX6_wholeValue 64 = .ok (.invokevirtual 100, 3) := by decide +kernel
theorem dX6_wholeValue_67 : decode cX6_wholeValue 67 = .ok (.ireturn, 1) := by decide +kernel
theorem dX6_wholeValue_68 : decode cX6_wholeValue 68 = .ok (.aload_n 0, 1) := by decide +kernel
theorem dX6_wholeValue_69 : decode cX6_wholeValue 69 = .ok (.invokevirtual 135, 3) := by decide +kernel
theorem dX6_wholeValue_72 : decode cX6_wholeValue 72 = .ok (.ireturn, 1) := by decide +kernel
set_option maxRecDepth 20000 in
theorem ggX6_rulesLikeTheFirst_X4_at : GoodIn wsX6_rulesLikeTheFirst wsX4_at := goodIn_r _ [7, 8, 16] (by decide +kernel) (by decide +kernel)
set_option maxRecDepth 20000 in
theorem gX6_rulesLikeTheFirst_X4_at : GoodIn wsX6_rulesLikeTheFirst (wsV RX6 124 RX4 yX4_at wsX4_at) := goodIn_app (goodIn_of _ (by decide +kernel)) ggX6_rulesLikeTheFirst_X4_at
theorem dX6_rulesLikeTheFirst_0 : decode cX6_rulesLikeTheFirst 0 = .ok (.iconst 0, 1) := by decide +kernel
theorem dX6_rulesLikeTheFirst_1 : decode cX6_rulesLikeTheFirst 1 = .ok (.istore_n 1, 1) := by decide +kernel
theorem dX6_rulesLikeTheFirst_2 : decode cX6_rulesLikeTheFirst 2 = .ok (.iconst 0, 1) := by decide +kernel
theorem dX6_rulesLikeTheFirst_3 : decode cX6_rulesLikeTheFirst 3 = .ok (.istore_n 2, 1) := by decide +kernel
theorem dX6_rulesLikeTheFirst_4 : decode cX6_rulesLikeTheFirst 4 = .ok (.iload_n 2, 1) := by decide +kernel
theorem dX6_rulesLikeTheFirst_5 : decode cX6_rulesLikeTheFirst 5 = .ok (.aload_n 0, 1) := by decide +kernel
theorem dX6_rulesLikeTheFirst_6 : decode cX6_rulesLikeTheFirst 6 = .ok (.getfield 40, 3) := by decide +kernel
theorem dX6_rulesLikeTheFirst_9 : decode cX6_rulesLikeTheFirst 9 = .ok (.if_icmp .ge 31, 3) := by decide +kernel
theorem dX6_rulesLikeTheFirst_12 : decode cX6_rulesLikeTheFirst 12 = .ok (.aload_n 0, 1) := by decide +kernel
theorem dX6_rulesLikeTheFirst_13 : decode cX6_rulesLikeTheFirst 13 = .ok (.getfield 27, 3) := by decide +kernel
theorem dX6_rulesLikeTheFirst_16 : decode cX6_rulesLikeTheFirst 16 = .ok (.iload_n 2, 1) := by decide +kernel
theorem dX6_rulesLikeTheFirst_17 : decode cX6_rulesLikeTheFirst 17 = .ok (.invokevirtual 124, 3) := by decide +kernel
theorem dX6_rulesLikeTheFirst_20 : decode cX6_rulesLikeTheFirst 20 = .ok (.aload_n 0, 1) := by decide +kernel
theorem dX6_rulesLikeTheFirst_21 : decode cX6_rulesLikeTheFirst 21 = .ok (.getfield 27, 3) := by decide +kernel
theorem dX6_rulesLikeTheFirst_24 : decode cX6_rulesLikeTheFirst 24 = .ok (.iconst 0, 1) := by decide +kernel
theorem dX6_rulesLikeTheFirst_25 : decode cX6_rulesLikeTheFirst 25 = .ok (.invokevirtual 124, 3) := by decide +kernel
theorem dX6_rulesLikeTheFirst_28 : decode cX6_rulesLikeTheFirst 28 = .ok (.if_icmp .ne 6, 3) := by decide +kernel
theorem dX6_rulesLikeTheFirst_31 : decode cX6_rulesLikeTheFirst 31 = .ok (.iinc 1 1, 3) := by decide +kernel
theorem dX6_rulesLikeTheFirst_34 : decode cX6_rulesLikeTheFirst 34 = .ok (.iinc 2 1, 3) := by decide +kernel
theorem dX6_rulesLikeTheFirst_37 : decode cX6_rulesLikeTheFirst 37 = .ok (.goto (-33), 3) := by decide +kernel
theorem dX6_rulesLikeTheFirst_40 : decode cX6_rulesLikeTheFirst 40 = .ok (.iload_n 1, 1) := by decide +kernel
theorem dX6_rulesLikeTheFirst_41 : decode cX6_rulesLikeTheFirst 41 = .ok (.ireturn, 1) := by decide +kernel
set_option maxRecDepth 20000 in
theorem ggX6_enrol_X4_put : GoodIn wsX6_enrol wsX4_put := goodIn_r _ [8, 9, 17] (by decide +kernel) (by decide +kernel)
set_option maxRecDepth 20000 in
theorem gX6_enrol_X4_put : GoodIn wsX6_enrol (wsV RX6 93 RX4 yX4_put wsX4_put) := goodIn_app (goodIn_of _ (by decide +kernel)) ggX6_enrol_X4_put
theorem dX6_enrol_0 : decode cX6_enrol 0 = .ok (.aload_n 0, 1) := by decide +kernel
theorem dX6_enrol_1 : decode cX6_enrol 1 = .ok (.getfield 14, 3) := by decide +kernel
theorem dX6_enrol_4 : decode cX6_enrol 4 = .ok (.aload_n 0, 1) := by decide +kernel
theorem dX6_enrol_5 : decode cX6_enrol 5 = .ok (.getfield 33, 3) := by decide +kernel
theorem dX6_enrol_8 : decode cX6_enrol 8 = .ok (.iload_n 1, 1) := by decide +kernel
theorem dX6_enrol_9 : decode cX6_enrol 9 = .ok (.invokevirtual 93, 3) := by decide +kernel
theorem dX6_enrol_12 : decode cX6_enrol 12 = .ok (.aload_n 0, 1) := by decide +kernel
theorem dX6_enrol_13 : decode cX6_enrol 13 = .ok (.getfield 20, 3) := by decide +kernel
theorem dX6_enrol_16 : decode cX6_enrol 16 = .ok (.aload_n 0, 1) := by decide +kernel
theorem dX6_enrol_17 : decode cX6_enrol 17 = .ok (.getfield 33, 3) := by decide +kernel
theorem dX6_enrol_20 : decode cX6_enrol 20 = .ok (.iconst (-1), 1) := by decide +kernel
theorem dX6_enrol_21 : decode cX6_enrol 21 = .ok (.invokevirtual 93, 3) := by decide +kernel
theorem dX6_enrol_24 : decode cX6_enrol 24 = .ok (.aload_n 0, 1) := by decide +kernel
theorem dX6_enrol_25 : decode cX6_enrol 25 = .ok (.dup, 1) := by decide +kernel
theorem dX6_enrol_26 : decode cX6_enrol 26 = .ok (.getfield 33, 3) := by decide +kernel
theorem dX6_enrol_29 : decode cX6_enrol 29 = .ok (.iconst 1, 1) := by decide +kernel
theorem dX6_enrol_30 : decode cX6_enrol 30 = .ok (.iadd, 1) := by decide +kernel
theorem dX6_enrol_31 : decode cX6_enrol 31 = .ok (.putfield 33, 3) := by decide +kernel
theorem dX6_enrol_34 : decode cX6_enrol 34 = .ok (.aload_n 0, 1) := by decide +kernel
theorem dX6_enrol_35 : decode cX6_enrol 35 = .ok (.getfield 33, 3) := by decide +kernel
theorem dX6_enrol_38 : decode cX6_enrol 38 = .ok (.iconst 1, 1) := by decide +kernel
theorem dX6_enrol_39 : decode cX6_enrol 39 = .ok (.isub, 1) := by decide +kernel
theorem dX6_enrol_40 : decode cX6_enrol 40 = .ok (.ireturn, 1) := by decide +kernel
set_option maxRecDepth 20000 in
theorem ggX6_weigh_X4_at : GoodIn wsX6_weigh wsX4_at := goodIn_r _ [6, 7, 19] (by decide +kernel) (by decide +kernel)
set_option maxRecDepth 20000 in
theorem gX6_weigh_X4_at : GoodIn wsX6_weigh (wsV RX6 124 RX4 yX4_at wsX4_at) := goodIn_app (goodIn_of _ (by decide +kernel)) ggX6_weigh_X4_at
set_option maxRecDepth 20000 in
theorem ggX6_weigh_X4_put : GoodIn wsX6_weigh wsX4_put := goodIn_r _ [11, 7, 19] (by decide +kernel) (by decide +kernel)
set_option maxRecDepth 20000 in
theorem gX6_weigh_X4_put : GoodIn wsX6_weigh (wsV RX6 93 RX4 yX4_put wsX4_put) := goodIn_app (goodIn_of _ (by decide +kernel)) ggX6_weigh_X4_put
theorem dX6_weigh_0 : decode cX6_weigh 0 = .ok (.aload_n 0, 1) := by decide +kernel
theorem dX6_weigh_1 : decode cX6_weigh 1 = .ok (.getfield 14, 3) := by decide +kernel
theorem dX6_weigh_4 : decode cX6_weigh 4 = .ok (.iload_n 1, 1) := by decide +kernel
theorem dX6_weigh_5 : decode cX6_weigh 5 = .ok (.invokevirtual 124, 3) := by decide +kernel
theorem dX6_weigh_8 : decode cX6_weigh 8 = .ok (.istore_n 3, 1) := by decide +kernel
theorem dX6_weigh_9 : decode cX6_weigh 9 = .ok (.aload_n 0, 1) := by decide +kernel
theorem dX6_weigh_10 : decode cX6_weigh 10 = .ok (.getfield 14, 3) := by decide +kernel
theorem dX6_weigh_13 : decode cX6_weigh 13 = .ok (.iload_n 1, 1) := by decide +kernel
theorem dX6_weigh_14 : decode cX6_weigh 14 = .ok (.iload_n 2, 1) := by decide +kernel
theorem dX6_weigh_15 : decode cX6_weigh 15 = .ok (.invokevirtual 93, 3) := by decide +kernel
theorem dX6_weigh_18 : decode cX6_weigh 18 = .ok (.iload_n 3, 1) := by decide +kernel
theorem dX6_weigh_19 : decode cX6_weigh 19 = .ok (.ireturn, 1) := by decide +kernel
theorem dX6_changeQuota_0 : decode cX6_changeQuota 0 = .ok (.aload_n 0, 1) := by decide +kernel
theorem dX6_changeQuota_1 : decode cX6_changeQuota 1 = .ok (.getfield 23, 3) := by decide +kernel
theorem dX6_changeQuota_4 : decode cX6_changeQuota 4 = .ok (.istore_n 2, 1) := by decide +kernel
theorem dX6_changeQuota_5 : decode cX6_changeQuota 5 = .ok (.aload_n 0, 1) := by decide +kernel
theorem dX6_changeQuota_6 : decode cX6_changeQuota 6 = .ok (.iload_n 1, 1) := by decide +kernel
theorem dX6_changeQuota_7 : decode cX6_changeQuota 7 = .ok (.putfield 23, 3) := by decide +kernel
theorem dX6_changeQuota_10 : decode cX6_changeQuota 10 = .ok (.iload_n 2, 1) := by decide +kernel
theorem dX6_changeQuota_11 : decode cX6_changeQuota 11 = .ok (.ireturn, 1) := by decide +kernel
set_option maxRecDepth 20000 in
theorem ggX6_release_X4_at : GoodIn wsX6_release wsX4_at := goodIn_r _ [6, 7, 19] (by decide +kernel) (by decide +kernel)
set_option maxRecDepth 20000 in
theorem gX6_release_X4_at : GoodIn wsX6_release (wsV RX6 124 RX4 yX4_at wsX4_at) := goodIn_app (goodIn_of _ (by decide +kernel)) ggX6_release_X4_at
set_option maxRecDepth 20000 in
theorem ggX6_release_X4_put : GoodIn wsX6_release wsX4_put := goodIn_r _ [11, 7, 19] (by decide +kernel) (by decide +kernel)
set_option maxRecDepth 20000 in
theorem gX6_release_X4_put : GoodIn wsX6_release (wsV RX6 93 RX4 yX4_put wsX4_put) := goodIn_app (goodIn_of _ (by decide +kernel)) ggX6_release_X4_put
theorem dX6_release_0 : decode cX6_release 0 = .ok (.aload_n 0, 1) := by decide +kernel
theorem dX6_release_1 : decode cX6_release 1 = .ok (.getfield 20, 3) := by decide +kernel
theorem dX6_release_4 : decode cX6_release 4 = .ok (.iload_n 1, 1) := by decide +kernel
theorem dX6_release_5 : decode cX6_release 5 = .ok (.invokevirtual 124, 3) := by decide +kernel
theorem dX6_release_8 : decode cX6_release 8 = .ok (.istore_n 2, 1) := by decide +kernel
theorem dX6_release_9 : decode cX6_release 9 = .ok (.aload_n 0, 1) := by decide +kernel
theorem dX6_release_10 : decode cX6_release 10 = .ok (.getfield 20, 3) := by decide +kernel
theorem dX6_release_13 : decode cX6_release 13 = .ok (.iload_n 1, 1) := by decide +kernel
theorem dX6_release_14 : decode cX6_release 14 = .ok (.iconst (-1), 1) := by decide +kernel
theorem dX6_release_15 : decode cX6_release 15 = .ok (.invokevirtual 93, 3) := by decide +kernel
theorem dX6_release_18 : decode cX6_release 18 = .ok (.iload_n 2, 1) := by decide +kernel
theorem dX6_release_19 : decode cX6_release 19 = .ok (.ireturn, 1) := by decide +kernel
set_option maxRecDepth 20000 in
theorem ggX6_appendRule_X4_put : GoodIn wsX6_appendRule wsX4_put := goodIn_r _ [8, 9, 17] (by decide +kernel) (by decide +kernel)
set_option maxRecDepth 20000 in
theorem gX6_appendRule_X4_put : GoodIn wsX6_appendRule (wsV RX6 93 RX4 yX4_put wsX4_put) := goodIn_app (goodIn_of _ (by decide +kernel)) ggX6_appendRule_X4_put
theorem dX6_appendRule_0 : decode cX6_appendRule 0 = .ok (.aload_n 0, 1) := by decide +kernel
theorem dX6_appendRule_1 : decode cX6_appendRule 1 = .ok (.getfield 27, 3) := by decide +kernel
theorem dX6_appendRule_4 : decode cX6_appendRule 4 = .ok (.aload_n 0, 1) := by decide +kernel
theorem dX6_appendRule_5 : decode cX6_appendRule 5 = .ok (.getfield 40, 3) := by decide +kernel
theorem dX6_appendRule_8 : decode cX6_appendRule 8 = .ok (.iload_n 1, 1) := by decide +kernel
theorem dX6_appendRule_9 : decode cX6_appendRule 9 = .ok (.invokevirtual 93, 3) := by decide +kernel
theorem dX6_appendRule_12 : decode cX6_appendRule 12 = .ok (.aload_n 0, 1) := by decide +kernel
theorem dX6_appendRule_13 : decode cX6_appendRule 13 = .ok (.getfield 30, 3) := by decide +kernel
theorem dX6_appendRule_16 : decode cX6_appendRule 16 = .ok (.aload_n 0, 1) := by decide +kernel
theorem dX6_appendRule_17 : decode cX6_appendRule 17 = .ok (.getfield 40, 3) := by decide +kernel
theorem dX6_appendRule_20 : decode cX6_appendRule 20 = .ok (.iload_n 2, 1) := by decide +kernel
theorem dX6_appendRule_21 : decode cX6_appendRule 21 = .ok (.invokevirtual 93, 3) := by decide +kernel
theorem dX6_appendRule_24 : decode cX6_appendRule 24 = .ok (.aload_n 0, 1) := by decide +kernel
theorem dX6_appendRule_25 : decode cX6_appendRule 25 = .ok (.dup, 1) := by decide +kernel
theorem dX6_appendRule_26 : decode cX6_appendRule 26 = .ok (.getfield 40, 3) := by decide +kernel
theorem dX6_appendRule_29 : decode cX6_appendRule 29 = .ok (.iconst 1, 1) := by decide +kernel
theorem dX6_appendRule_30 : decode cX6_appendRule 30 = .ok (.iadd, 1) := by decide +kernel
theorem dX6_appendRule_31 : decode cX6_appendRule 31 = .ok (.putfield 40, 3) := by decide +kernel
theorem dX6_appendRule_34 : decode cX6_appendRule 34 = .ok (.aload_n 0, 1) := by decide +kernel
theorem dX6_appendRule_35 : decode cX6_appendRule 35 = .ok (.getfield 40, 3) := by decide +kernel
theorem dX6_appendRule_38 : decode cX6_appendRule 38 = .ok (.iconst 1, 1) := by decide +kernel
theorem dX6_appendRule_39 : decode cX6_appendRule 39 = .ok (.isub, 1) := by decide +kernel
theorem dX6_appendRule_40 : decode cX6_appendRule 40 = .ok (.ireturn, 1) := by decide +kernel
set_option maxRecDepth 20000 in
theorem ggX6_removeRule_X4_at : GoodIn wsX6_removeRule wsX4_at := goodIn_r _ [8, 9, 21] (by decide +kernel) (by decide +kernel)
set_option maxRecDepth 20000 in
theorem gX6_removeRule_X4_at : GoodIn wsX6_removeRule (wsV RX6 124 RX4 yX4_at wsX4_at) := goodIn_app (goodIn_of _ (by decide +kernel)) ggX6_removeRule_X4_at
set_option maxRecDepth 20000 in
theorem ggX6_removeRule_X4_put : GoodIn wsX6_removeRule wsX4_put := goodIn_r _ [13, 9, 21] (by decide +kernel) (by decide +kernel)
set_option maxRecDepth 20000 in
theorem gX6_removeRule_X4_put : GoodIn wsX6_removeRule (wsV RX6 93 RX4 yX4_put wsX4_put) := goodIn_app (goodIn_of _ (by decide +kernel)) ggX6_removeRule_X4_put
theorem dX6_removeRule_0 : decode cX6_removeRule 0 = .ok (.aload_n 0, 1) := by decide +kernel
theorem dX6_removeRule_1 : decode cX6_removeRule 1 = .ok (.dup, 1) := by decide +kernel
theorem dX6_removeRule_2 : decode cX6_removeRule 2 = .ok (.getfield 40, 3) := by decide +kernel
theorem dX6_removeRule_5 : decode cX6_removeRule 5 = .ok (.iconst 1, 1) := by decide +kernel
theorem dX6_removeRule_6 : decode cX6_removeRule 6 = .ok (.isub, 1) := by decide +kernel
theorem dX6_removeRule_7 : decode cX6_removeRule 7 = .ok (.putfield 40, 3) := by decide +kernel
theorem dX6_removeRule_10 : decode cX6_removeRule 10 = .ok (.iload_n 1, 1) := by decide +kernel
theorem dX6_removeRule_11 : decode cX6_removeRule 11 = .ok (.istore_n 2, 1) := by decide +kernel
theorem dX6_removeRule_12 : decode cX6_removeRule 12 = .ok (.iload_n 2, 1) := by decide +kernel
theorem dX6_removeRule_13 : decode cX6_removeRule 13 = .ok (.aload_n 0, 1) := by decide +kernel
theorem dX6_removeRule_14 : decode cX6_removeRule 14 = .ok (.getfield 40, 3) := by decide +kernel
theorem dX6_removeRule_17 : decode cX6_removeRule 17 = .ok (.if_icmp .ge 45, 3) := by decide +kernel
theorem dX6_removeRule_20 : decode cX6_removeRule 20 = .ok (.aload_n 0, 1) := by decide +kernel
theorem dX6_removeRule_21 : decode cX6_removeRule 21 = .ok (.getfield 27, 3) := by decide +kernel
theorem dX6_removeRule_24 : decode cX6_removeRule 24 = .ok (.iload_n 2, 1) := by decide +kernel
theorem dX6_removeRule_25 : decode cX6_removeRule 25 = .ok (.aload_n 0, 1) := by decide +kernel
theorem dX6_removeRule_26 : decode cX6_removeRule 26 = .ok (.getfield 27, 3) := by decide +kernel
theorem dX6_removeRule_29 : decode cX6_removeRule 29 = .ok (.iload_n 2, 1) := by decide +kernel
theorem dX6_removeRule_30 : decode cX6_removeRule 30 = .ok (.iconst 1, 1) := by decide +kernel
theorem dX6_removeRule_31 : decode cX6_removeRule 31 = .ok (.iadd, 1) := by decide +kernel
theorem dX6_removeRule_32 : decode cX6_removeRule 32 = .ok (.invokevirtual 124, 3) := by decide +kernel
theorem dX6_removeRule_35 : decode cX6_removeRule 35 = .ok (.invokevirtual 93, 3) := by decide +kernel
theorem dX6_removeRule_38 : decode cX6_removeRule 38 = .ok (.aload_n 0, 1) := by decide +kernel
theorem dX6_removeRule_39 : decode cX6_removeRule 39 = .ok (.getfield 30, 3) := by decide +kernel
theorem dX6_removeRule_42 : decode cX6_removeRule 42 = .ok (.iload_n 2, 1) := by decide +kernel
theorem dX6_removeRule_43 : decode cX6_removeRule 43 = .ok (.aload_n 0, 1) := by decide +kernel
theorem dX6_removeRule_44 : decode cX6_removeRule 44 = .ok (.getfield 30, 3) := by decide +kernel
theorem dX6_removeRule_47 : decode cX6_removeRule 47 = .ok (.iload_n 2, 1) := by decide +kernel
theorem dX6_removeRule_48 : decode cX6_removeRule 48 = .ok (.iconst 1, 1) := by decide +kernel
theorem dX6_removeRule_49 : decode cX6_removeRule 49 = .ok (.iadd, 1) := by decide +kernel
theorem dX6_removeRule_50 : decode cX6_removeRule 50 = .ok (.invokevirtual 124, 3) := by decide +kernel
theorem dX6_removeRule_53 : decode cX6_removeRule 53 = .ok (.invokevirtual 93, 3) := by decide +kernel
theorem dX6_removeRule_56 : decode cX6_removeRule 56 = .ok (.iinc 2 1, 3) := by decide +kernel
theorem dX6_removeRule_59 : decode cX6_removeRule 59 = .ok (.goto (-47), 3) := by decide +kernel
theorem dX6_removeRule_62 : decode cX6_removeRule 62 = .ok (.aload_n 0, 1) := by decide +kernel
theorem dX6_removeRule_63 : decode cX6_removeRule 63 = .ok (.getfield 40, 3) := by decide +kernel
theorem dX6_removeRule_66 : decode cX6_removeRule 66 = .ok (.ireturn, 1) := by decide +kernel
set_option maxRecDepth 20000 in
theorem ggX7_init_X6_init : GoodIn wsX7_init wsX6_init := goodIn_r _ [24, 25, 2, 3, 26, 27, 28, 29, 30, 31, 32, 33, 34, 35, 36, 37, 38, 39, 100, 64, 65, 66, 67, 68, 69, 70] (by decide +kernel) (by decide +kernel)
set_option maxRecDepth 20000 in
theorem gX7_init_X6_init_n9 : GoodIn wsX7_init (wsX6_init) := ggX7_init_X6_init
set_option maxRecDepth 20000 in
theorem ggX7_init_X3_init : GoodIn wsX7_init wsX3_init := goodIn_r _ [41, 42, 2, 3, 43, 27, 28, 44, 45, 46, 47, 48, 49, 50, 51, 35, 36, 37, 38, 39, 100, 78, 79, 80, 81, 82, 83, 84, 85, 86, 87, 88, 89, 90] (by decide +kernel) (by decide +kernel)
set_option maxRecDepth 20000 in
theorem gX7_init_X3_init_n18 : GoodIn wsX7_init (wsX3_init) := ggX7_init_X3_init
set_option maxRecDepth 20000 in
theorem ggX7_init_X5_init : GoodIn wsX7_init wsX5_init := goodIn_r _ [54, 55, 2, 3, 56, 57, 5, 6, 23, 24, 25, 26, 27, 28, 29, 30, 31, 32, 33, 34, 35, 36, 37, 38, 39, 91, 92, 93, 64, 65, 66, 67, 68, 69, 70, 100] (by decide +kernel) (by decide +kernel)
set_option maxRecDepth 20000 in
theorem gX7_init_X5_init : GoodIn wsX7_init (wsX5_init) := ggX7_init_X5_init
set_option maxRecDepth 20000 in
theorem ggX7_init_X2_init : GoodIn wsX7_init wsX2_init := goodIn_r _ [59, 60, 2, 3, 61, 27, 28, 62, 63, 35, 36, 37, 38, 39, 100, 94, 95, 96, 97, 98, 99] (by decide +kernel) (by decide +kernel)
set_option maxRecDepth 20000 in
theorem gX7_init_X2_init_n42 : GoodIn wsX7_init (wsX2_init) := ggX7_init_X2_init
theorem dX7_init_0 : decode cX7_init 0 = .ok (.aload_n 0, 1) := by decide +kernel
theorem dX7_init_1 : decode cX7_init 1 = .ok (.invokespecial 1, 3) := by decide +kernel
theorem dX7_init_4 : decode cX7_init 4 = .ok (.aload_n 0, 1) := by decide +kernel
theorem dX7_init_5 : decode cX7_init 5 = .ok (.new 7, 3) := by decide +kernel
theorem dX7_init_8 : decode cX7_init 8 = .ok (.dup, 1) := by decide +kernel
theorem dX7_init_9 : decode cX7_init 9 = .ok (.invokespecial 9, 3) := by decide +kernel
theorem dX7_init_12 : decode cX7_init 12 = .ok (.putfield 10, 3) := by decide +kernel
theorem dX7_init_15 : decode cX7_init 15 = .ok (.aload_n 0, 1) := by decide +kernel
theorem dX7_init_16 : decode cX7_init 16 = .ok (.new 16, 3) := by decide +kernel
theorem dX7_init_19 : decode cX7_init 19 = .ok (.dup, 1) := by decide +kernel
theorem dX7_init_20 : decode cX7_init 20 = .ok (.invokespecial 18, 3) := by decide +kernel
theorem dX7_init_23 : decode cX7_init 23 = .ok (.putfield 19, 3) := by decide +kernel
theorem dX7_init_26 : decode cX7_init 26 = .ok (.aload_n 0, 1) := by decide +kernel
theorem dX7_init_27 : decode cX7_init 27 = .ok (.iconst 1, 1) := by decide +kernel
theorem dX7_init_28 : decode cX7_init 28 = .ok (.putfield 23, 3) := by decide +kernel
theorem dX7_init_31 : decode cX7_init 31 = .ok (.aload_n 0, 1) := by decide +kernel
theorem dX7_init_32 : decode cX7_init 32 = .ok (.new 7, 3) := by decide +kernel
theorem dX7_init_35 : decode cX7_init 35 = .ok (.dup, 1) := by decide +kernel
theorem dX7_init_36 : decode cX7_init 36 = .ok (.invokespecial 9, 3) := by decide +kernel
theorem dX7_init_39 : decode cX7_init 39 = .ok (.putfield 27, 3) := by decide +kernel
theorem dX7_init_42 : decode cX7_init 42 = .ok (.aload_n 0, 1) := by decide +kernel
theorem dX7_init_43 : decode cX7_init 43 = .ok (.new 16, 3) := by decide +kernel
theorem dX7_init_46 : decode cX7_init 46 = .ok (.dup, 1) := by decide +kernel
theorem dX7_init_47 : decode cX7_init 47 = .ok (.invokespecial 18, 3) := by decide +kernel
theorem dX7_init_50 : decode cX7_init 50 = .ok (.putfield 30, 3) := by decide +kernel
theorem dX7_init_53 : decode cX7_init 53 = .ok (.aload_n 0, 1) := by decide +kernel
theorem dX7_init_54 : decode cX7_init 54 = .ok (.new 33, 3) := by decide +kernel
theorem dX7_init_57 : decode cX7_init 57 = .ok (.dup, 1) := by decide +kernel
theorem dX7_init_58 : decode cX7_init 58 = .ok (.invokespecial 35, 3) := by decide +kernel
theorem dX7_init_61 : decode cX7_init 61 = .ok (.putfield 36, 3) := by decide +kernel
theorem dX7_init_64 : decode cX7_init 64 = .ok (.aload_n 0, 1) := by decide +kernel
theorem dX7_init_65 : decode cX7_init 65 = .ok (.new 40, 3) := by decide +kernel
theorem dX7_init_68 : decode cX7_init 68 = .ok (.dup, 1) := by decide +kernel
theorem dX7_init_69 : decode cX7_init 69 = .ok (.invokespecial 42, 3) := by decide +kernel
theorem dX7_init_72 : decode cX7_init 72 = .ok (.putfield 43, 3) := by decide +kernel
theorem dX7_init_75 : decode cX7_init 75 = .ok (.return_, 1) := by decide +kernel
set_option maxRecDepth 20000 in
theorem ggX7_add_X7_perform : GoodIn wsX7_add wsX7_perform := goodIn_ca (goodIn_ca (goodIn_ca (goodIn_r _ [6, 7, 8, 9, 10, 11, 12, 13, 14, 15, 16, 17, 18, 19, 20, 21, 22, 23, 24, 25, 5, 26, 27, 28, 29, 30, 31, 32, 33, 34, 35, 36, 37, 38, 39, 40, 41, 42, 43, 44, 45, 46, 47, 48, 49, 50, 51, 52, 53, 54, 55, 56, 57, 58, 59, 60, 61, 62, 63, 64, 65, 66, 67, 68, 69, 70, 71, 72, 73, 74, 75, 76, 77, 78, 79, 80, 81, 82, 83, 84, 85, 86, 87, 88, 89, 90, 91, 92, 93, 94, 95, 96, 97, 98, 99, 100, 101, 102, 103, 104, 105, 106, 107, 108, 109, 110, 111, 112, 113, 114, 115, 116, 117, 118, 119, 120, 121, 122, 123, 124, 125, 126, 127, 128, 129, 130, 131, 132, 133, 134, 135, 136, 137, 138, 139, 140, 141, 142, 143, 144, 145, 146, 147, 148, 149, 150, 151, 152, 153, 154, 155, 156, 157, 158, 159, 160, 161, 162] (by decide +kernel) (by decide +kernel)) (goodIn_sub (fun _ h => List.mem_cons_of_mem _ (List.mem_append_left _ (List.mem_append_left _ (List.mem_append_right _ h)))) (by decide +kernel))) (goodIn_sub (fun _ h => List.mem_cons_of_mem _ (List.mem_append_left _ (List.mem_append_right _ h))) (by decide +kernel))) (goodIn_sub (fun _ h => List.mem_cons_of_mem _ (List.mem_append_right _ h)) (by decide +kernel))
set_option maxRecDepth 20000 in
theorem gX7_add_X7_perform : GoodIn wsX7_add (wsV RX7 53 RX7 yX7_perform wsX7_perform) := goodIn_app (goodIn_of _ (by decide +kernel)) ggX7_add_X7_perform
theorem dX7_add_0 : decode cX7_add 0 = .ok (.aload_n 0, 1) := by decide +kernel
theorem dX7_add_1 : decode cX7_add 1 = .ok (.getstatic 47, 3) := by decide +kernel
theorem dX7_add_4 : decode cX7_add 4 = .ok (.iload_n 1, 1) := by decide +kernel
theorem dX7_add_5 : decode cX7_add 5 = .ok (.iconst 0, 1) := by decide +kernel
theorem dX7_add_6 : decode cX7_add 6 = .ok (.invokevirtual 53, 3) := by decide +kernel
theorem dX7_add_9 : decode cX7_add 9 = .ok (.ireturn, 1) := by decide +kernel
set_option maxRecDepth 20000 in
theorem ggX7_setWeight_X7_perform : GoodIn wsX7_setWeight wsX7_perform := goodIn_ca (goodIn_ca (goodIn_ca (goodIn_r _ [6, 7, 8, 9, 10, 11, 12, 13, 14, 15, 16, 17, 18, 19, 20, 21, 22, 23, 24, 25, 5, 26, 27, 28, 29, 30, 31, 32, 33, 34, 35, 36, 37, 38, 39, 40, 41, 42, 43, 44, 45, 46, 47, 48, 49, 50, 51, 52, 53, 54, 55, 56, 57, 58, 59, 60, 61, 62, 63, 64, 65, 66, 67, 68, 69, 70, 71, 72, 73, 74, 75, 76, 77, 78, 79, 80, 81, 82, 83, 84, 85, 86, 87, 88, 89, 90, 91, 92, 93, 94, 95, 96, 97, 98, 99, 100, 101, 102, 103, 104, 105, 106, 107, 108, 109, 110, 111, 112, 113, 114, 115, 116, 117, 118, 119, 120, 121, 122, 123, 124, 125, 126, 127, 128, 129, 130, 131, 132, 133, 134, 135, 136, 137, 138, 139, 140, 141, 142, 143, 144, 145, 146, 147, 148, 149, 150, 151, 152, 153, 154, 155, 156, 157, 158, 159, 160, 161, 162] (by decide +kernel) (by decide +kernel)) (goodIn_sub (fun _ h => List.mem_cons_of_mem _ (List.mem_append_left _ (List.mem_append_left _ (List.mem_append_right _ h)))) (by decide +kernel))) (goodIn_sub (fun _ h => List.mem_cons_of_mem _ (List.mem_append_left _ (List.mem_append_right _ h))) (by decide +kernel))) (goodIn_sub (fun _ h => List.mem_cons_of_mem _ (List.mem_append_right _ h)) (by decide +kernel))
set_option maxRecDepth 20000 in
theorem gX7_setWeight_X7_perform : GoodIn wsX7_setWeight (wsV RX7 53 RX7 yX7_perform wsX7_perform) := goodIn_app (goodIn_of _ (by decide +kernel)) ggX7_setWeight_X7_perform
theorem dX7_setWeight_0 : decode cX7_setWeight 0 = .ok (.aload_n 0, 1) := by decide +kernel
theorem dX7_setWeight_1 : decode cX7_setWeight 1 = .ok (.getstatic 57, 3) := by decide +kernel
theorem dX7_setWeight_4 : decode cX7_setWeight 4 = .ok (.iload_n 1, 1) := by decide +kernel
theorem dX7_setWeight_5 : decode cX7_setWeight 5 = .ok (.iload_n 2, 1) := by decide +kernel
theorem dX7_setWeight_6 : decode cX7_setWeight 6 = .ok (.invokevirtual 53, 3) := by decide +kernel
theorem dX7_setWeight_9 : decode cX7_setWeight 9 = .ok (.ireturn, 1) := by decide +kernel
set_option maxRecDepth 20000 in
theorem ggX7_setQuota_X7_perform : GoodIn wsX7_setQuota wsX7_perform := goodIn_ca (goodIn_ca (goodIn_ca (goodIn_r _ [6, 7, 8, 9, 10, 11, 12, 13, 14, 15, 16, 17, 18, 19, 20, 21, 22, 23, 24, 25, 5, 26, 27, 28, 29, 30, 31, 32, 33, 34, 35, 36, 37, 38, 39, 40, 41, 42, 43, 44, 45, 46, 47, 48, 49, 50, 51, 52, 53, 54, 55, 56, 57, 58, 59, 60, 61, 62, 63, 64, 65, 66, 67, 68, 69, 70, 71, 72, 73, 74, 75, 76, 77, 78, 79, 80, 81, 82, 83, 84, 85, 86, 87, 88, 89, 90, 91, 92, 93, 94, 95, 96, 97, 98, 99, 100, 101, 102, 103, 104, 105, 106, 107, 108, 109, 110, 111, 112, 113, 114, 115, 116, 117, 118, 119, 120, 121, 122, 123, 124, 125, 126, 127, 128, 129, 130, 131, 132, 133, 134, 135, 136, 137, 138, 139, 140, 141, 142, 143, 144, 145, 146, 147, 148, 149, 150, 151, 152, 153, 154, 155, 156, 157, 158, 159, 160, 161, 162] (by decide +kernel) (by decide +kernel)) (goodIn_sub (fun _ h => List.mem_cons_of_mem _ (List.mem_append_left _ (List.mem_append_left _ (List.mem_append_right _ h)))) (by decide +kernel))) (goodIn_sub (fun _ h => List.mem_cons_of_mem _ (List.mem_append_left _ (List.mem_append_right _ h))) (by decide +kernel))) (goodIn_sub (fun _ h => List.mem_cons_of_mem _ (List.mem_append_right _ h)) (by decide +kernel))
set_option maxRecDepth 20000 in
theorem gX7_setQuota_X7_perform : GoodIn wsX7_setQuota (wsV RX7 53 RX7 yX7_perform wsX7_perform) := goodIn_app (goodIn_of _ (by decide +kernel)) ggX7_setQuota_X7_perform
theorem dX7_setQuota_0 : decode cX7_setQuota 0 = .ok (.aload_n 0, 1) := by decide +kernel
theorem dX7_setQuota_1 : decode cX7_setQuota 1 = .ok (.getstatic 60, 3) := by decide +kernel
theorem dX7_setQuota_4 : decode cX7_setQuota 4 = .ok (.iload_n 1, 1) := by decide +kernel
theorem dX7_setQuota_5 : decode cX7_setQuota 5 = .ok (.iconst 0, 1) := by decide +kernel
theorem dX7_setQuota_6 : decode cX7_setQuota 6 = .ok (.invokevirtual 53, 3) := by decide +kernel
theorem dX7_setQuota_9 : decode cX7_setQuota 9 = .ok (.ireturn, 1) := by decide +kernel
set_option maxRecDepth 20000 in
theorem ggX7_follow_X7_perform : GoodIn wsX7_follow wsX7_perform := goodIn_ca (goodIn_ca (goodIn_ca (goodIn_r _ [6, 7, 8, 9, 10, 11, 12, 13, 14, 15, 16, 17, 18, 19, 20, 21, 22, 23, 24, 25, 5, 26, 27, 28, 29, 30, 31, 32, 33, 34, 35, 36, 37, 38, 39, 40, 41, 42, 43, 44, 45, 46, 47, 48, 49, 50, 51, 52, 53, 54, 55, 56, 57, 58, 59, 60, 61, 62, 63, 64, 65, 66, 67, 68, 69, 70, 71, 72, 73, 74, 75, 76, 77, 78, 79, 80, 81, 82, 83, 84, 85, 86, 87, 88, 89, 90, 91, 92, 93, 94, 95, 96, 97, 98, 99, 100, 101, 102, 103, 104, 105, 106, 107, 108, 109, 110, 111, 112, 113, 114, 115, 116, 117, 118, 119, 120, 121, 122, 123, 124, 125, 126, 127, 128, 129, 130, 131, 132, 133, 134, 135, 136, 137, 138, 139, 140, 141, 142, 143, 144, 145, 146, 147, 148, 149, 150, 151, 152, 153, 154, 155, 156, 157, 158, 159, 160, 161, 162] (by decide +kernel) (by decide +kernel)) (goodIn_sub (fun _ h => List.mem_cons_of_mem _ (List.mem_append_left _ (List.mem_append_left _ (List.mem_append_right _ h)))) (by decide +kernel))) (goodIn_sub (fun _ h => List.mem_cons_of_mem _ (List.mem_append_left _ (List.mem_append_right _ h))) (by decide +kernel))) (goodIn_sub (fun _ h => List.mem_cons_of_mem _ (List.mem_append_right _ h)) (by decide +kernel))
set_option maxRecDepth 20000 in
theorem gX7_follow_X7_perform : GoodIn wsX7_follow (wsV RX7 53 RX7 yX7_perform wsX7_perform) := goodIn_app (goodIn_of _ (by decide +kernel)) ggX7_follow_X7_perform
theorem dX7_follow_0 : decode cX7_follow 0 = .ok (.aload_n 0, 1) := by decide +kernel
theorem dX7_follow_1 : decode cX7_follow 1 = .ok (.getstatic 63, 3) := by decide +kernel
theorem dX7_follow_4 : decode cX7_follow 4 = .ok (.iload_n 1, 1) := by decide +kernel
theorem dX7_follow_5 : decode cX7_follow 5 = .ok (.iload_n 2, 1) := by decide +kernel
theorem dX7_follow_6 : decode cX7_follow 6 = .ok (.invokevirtual 53, 3) := by decide +kernel
theorem dX7_follow_9 : decode cX7_follow 9 = .ok (.ireturn, 1) := by decide +kernel
set_option maxRecDepth 20000 in
theorem ggX7_leave_X7_perform : GoodIn wsX7_leave wsX7_perform := goodIn_ca (goodIn_ca (goodIn_ca (goodIn_r _ [6, 7, 8, 9, 10, 11, 12, 13, 14, 15, 16, 17, 18, 19, 20, 21, 22, 23, 24, 25, 5, 26, 27, 28, 29, 30, 31, 32, 33, 34, 35, 36, 37, 38, 39, 40, 41, 42, 43, 44, 45, 46, 47, 48, 49, 50, 51, 52, 53, 54, 55, 56, 57, 58, 59, 60, 61, 62, 63, 64, 65, 66, 67, 68, 69, 70, 71, 72, 73, 74, 75, 76, 77, 78, 79, 80, 81, 82, 83, 84, 85, 86, 87, 88, 89, 90, 91, 92, 93, 94, 95, 96, 97, 98, 99, 100, 101, 102, 103, 104, 105, 106, 107, 108, 109, 110, 111, 112, 113, 114, 115, 116, 117, 118, 119, 120, 121, 122, 123, 124, 125, 126, 127, 128, 129, 130, 131, 132, 133, 134, 135, 136, 137, 138, 139, 140, 141, 142, 143, 144, 145, 146, 147, 148, 149, 150, 151, 152, 153, 154, 155, 156, 157, 158, 159, 160, 161, 162] (by decide +kernel) (by decide +kernel)) (goodIn_sub (fun _ h => List.mem_cons_of_mem _ (List.mem_append_left _ (List.mem_append_left _ (List.mem_append_right _ h)))) (by decide +kernel))) (goodIn_sub (fun _ h => List.mem_cons_of_mem _ (List.mem_append_left _ (List.mem_append_right _ h))) (by decide +kernel))) (goodIn_sub (fun _ h => List.mem_cons_of_mem _ (List.mem_append_right _ h)) (by decide +kernel))
set_option maxRecDepth 20000 in
theorem gX7_leave_X7_perform : GoodIn wsX7_leave (wsV RX7 53 RX7 yX7_perform wsX7_perform) := goodIn_app (goodIn_of _ (by decide +kernel)) ggX7_leave_X7_perform
theorem dX7_leave_0 : decode cX7_leave 0 = .ok (.aload_n 0, 1) := by decide +kernel
theorem dX7_leave_1 : decode cX7_leave 1 = .ok (.getstatic 66, 3) := by decide +kernel
theorem dX7_leave_4 : decode cX7_leave 4 = .ok (.iload_n 1, 1) := by decide +kernel
theorem dX7_leave_5 : decode cX7_leave 5 = .ok (.iconst 0, 1) := by decide +kernel
theorem dX7_leave_6 : decode cX7_leave 6 = .ok (.invokevirtual 53, 3) := by decide +kernel
theorem dX7_leave_9 : decode cX7_leave 9 = .ok (.ireturn, 1) := by decide +kernel
set_option maxRecDepth 20000 in
theorem ggX7_addRule_X7_perform : GoodIn wsX7_addRule wsX7_perform := goodIn_ca (goodIn_ca (goodIn_ca (goodIn_r _ [6, 7, 8, 9, 10, 11, 12, 13, 14, 15, 16, 17, 18, 19, 20, 21, 22, 23, 24, 25, 5, 26, 27, 28, 29, 30, 31, 32, 33, 34, 35, 36, 37, 38, 39, 40, 41, 42, 43, 44, 45, 46, 47, 48, 49, 50, 51, 52, 53, 54, 55, 56, 57, 58, 59, 60, 61, 62, 63, 64, 65, 66, 67, 68, 69, 70, 71, 72, 73, 74, 75, 76, 77, 78, 79, 80, 81, 82, 83, 84, 85, 86, 87, 88, 89, 90, 91, 92, 93, 94, 95, 96, 97, 98, 99, 100, 101, 102, 103, 104, 105, 106, 107, 108, 109, 110, 111, 112, 113, 114, 115, 116, 117, 118, 119, 120, 121, 122, 123, 124, 125, 126, 127, 128, 129, 130, 131, 132, 133, 134, 135, 136, 137, 138, 139, 140, 141, 142, 143, 144, 145, 146, 147, 148, 149, 150, 151, 152, 153, 154, 155, 156, 157, 158, 159, 160, 161, 162] (by decide +kernel) (by decide +kernel)) (goodIn_sub (fun _ h => List.mem_cons_of_mem _ (List.mem_append_left _ (List.mem_append_left _ (List.mem_append_right _ h)))) (by decide +kernel))) (goodIn_sub (fun _ h => List.mem_cons_of_mem _ (List.mem_append_left _ (List.mem_append_right _ h))) (by decide +kernel))) (goodIn_sub (fun _ h => List.mem_cons_of_mem _ (List.mem_append_right _ h)) (by decide +kernel))
set_option maxRecDepth 20000 in
theorem gX7_addRule_X7_perform : GoodIn wsX7_addRule (wsV RX7 53 RX7 yX7_perform wsX7_perform) := goodIn_app (goodIn_of _ (by decide +kernel)) ggX7_addRule_X7_perform
theorem dX7_addRule_0 : decode cX7_addRule 0 = .ok (.aload_n 0, 1) := by decide +kernel
theorem dX7_addRule_1 : decode cX7_addRule 1 = .ok (.getstatic 69, 3) := by decide +kernel
theorem dX7_addRule_4 : decode cX7_addRule 4 = .ok (.iload_n 1, 1) := by decide +kernel
theorem dX7_addRule_5 : decode cX7_addRule 5 = .ok (.iload_n 2, 1) := by decide +kernel
theorem dX7_addRule_6 : decode cX7_addRule 6 = .ok (.invokevirtual 53, 3) := by decide +kernel
theorem dX7_addRule_9 : decode cX7_addRule 9 = .ok (.ireturn, 1) := by decide +kernel
set_option maxRecDepth 20000 in
theorem ggX7_dropRule_X7_perform : GoodIn wsX7_dropRule wsX7_perform := goodIn_ca (goodIn_ca (goodIn_ca (goodIn_r _ [6, 7, 8, 9, 10, 11, 12, 13, 14, 15, 16, 17, 18, 19, 20, 21, 22, 23, 24, 25, 5, 26, 27, 28, 29, 30, 31, 32, 33, 34, 35, 36, 37, 38, 39, 40, 41, 42, 43, 44, 45, 46, 47, 48, 49, 50, 51, 52, 53, 54, 55, 56, 57, 58, 59, 60, 61, 62, 63, 64, 65, 66, 67, 68, 69, 70, 71, 72, 73, 74, 75, 76, 77, 78, 79, 80, 81, 82, 83, 84, 85, 86, 87, 88, 89, 90, 91, 92, 93, 94, 95, 96, 97, 98, 99, 100, 101, 102, 103, 104, 105, 106, 107, 108, 109, 110, 111, 112, 113, 114, 115, 116, 117, 118, 119, 120, 121, 122, 123, 124, 125, 126, 127, 128, 129, 130, 131, 132, 133, 134, 135, 136, 137, 138, 139, 140, 141, 142, 143, 144, 145, 146, 147, 148, 149, 150, 151, 152, 153, 154, 155, 156, 157, 158, 159, 160, 161, 162] (by decide +kernel) (by decide +kernel)) (goodIn_sub (fun _ h => List.mem_cons_of_mem _ (List.mem_append_left _ (List.mem_append_left _ (List.mem_append_right _ h)))) (by decide +kernel))) (goodIn_sub (fun _ h => List.mem_cons_of_mem _ (List.mem_append_left _ (List.mem_append_right _ h))) (by decide +kernel))) (goodIn_sub (fun _ h => List.mem_cons_of_mem _ (List.mem_append_right _ h)) (by decide +kernel))
set_option maxRecDepth 20000 in
theorem gX7_dropRule_X7_perform : GoodIn wsX7_dropRule (wsV RX7 53 RX7 yX7_perform wsX7_perform) := goodIn_app (goodIn_of _ (by decide +kernel)) ggX7_dropRule_X7_perform
theorem dX7_dropRule_0 : decode cX7_dropRule 0 = .ok (.aload_n 0, 1) := by decide +kernel
theorem dX7_dropRule_1 : decode cX7_dropRule 1 = .ok (.getstatic 72, 3) := by decide +kernel
theorem dX7_dropRule_4 : decode cX7_dropRule 4 = .ok (.iload_n 1, 1) := by decide +kernel
theorem dX7_dropRule_5 : decode cX7_dropRule 5 = .ok (.iconst 0, 1) := by decide +kernel
theorem dX7_dropRule_6 : decode cX7_dropRule 6 = .ok (.invokevirtual 53, 3) := by decide +kernel
theorem dX7_dropRule_9 : decode cX7_dropRule 9 = .ok (.ireturn, 1) := by decide +kernel
set_option maxRecDepth 20000 in
theorem ggX7_member_X6_faultOfMember : GoodIn wsX7_member wsX6_faultOfMember := goodIn_r _ [6, 7, 8, 9, 5, 10, 11, 165, 166, 167, 168, 169, 170, 171] (by decide +kernel) (by decide +kernel)
set_option maxRecDepth 20000 in
theorem gX7_member_X6_faultOfMember : GoodIn wsX7_member (wsV RX7 75 RX6 yX6_faultOfMember wsX6_faultOfMember) := goodIn_app (goodIn_of _ (by decide +kernel)) ggX7_member_X6_faultOfMember
set_option maxRecDepth 20000 in
theorem ggX7_member_X7_refuse : GoodIn wsX7_member wsX7_refuse := goodIn_ca (goodIn_ca (goodIn_ca (goodIn_r _ [15, 16, 17, 18, 19, 20, 21] (by decide +kernel) (by decide +kernel)) (goodIn_sub (fun _ h => List.mem_cons_of_mem _ (List.mem_append_left _ (List.mem_append_left _ (List.mem_append_right _ h)))) (by decide +kernel))) (goodIn_sub (fun _ h => List.mem_cons_of_mem _ (List.mem_append_left _ (List.mem_append_right _ h))) (by decide +kernel))) (goodIn_sub (fun _ h => List.mem_cons_of_mem _ (List.mem_append_right _ h)) (by decide +kernel))
set_option maxRecDepth 20000 in
theorem gX7_member_X7_refuse : GoodIn wsX7_member (va_wsS RX7 79 yX7_refuse wsX7_refuse) := goodIn_app (goodIn_of _ (by decide +kernel)) ggX7_member_X7_refuse
set_option maxRecDepth 20000 in
theorem ggX7_member_X7_faultOfRange : GoodIn wsX7_member wsX7_faultOfRange := goodIn_r _ [24] (by decide +kernel) (by decide +kernel)
set_option maxRecDepth 20000 in
theorem gX7_member_X7_faultOfRange : GoodIn wsX7_member (va_wsS RX7 83 yX7_faultOfRange wsX7_faultOfRange) := goodIn_app (goodIn_of _ (by decide +kernel)) ggX7_member_X7_faultOfRange
set_option maxRecDepth 20000 in
theorem ggX7_member_X7_measured : GoodIn wsX7_member wsX7_measured := goodIn_r _ [28, 29, 30, 1, 31, 32, 33, 34, 35, 36, 37, 38, 39, 40, 41, 42, 43, 44, 45, 46, 5, 47, 11, 48, 49, 50, 51, 52, 7, 8, 9, 10, 53, 54, 55, 56, 57, 58, 59, 60, 61, 62, 63, 64, 65, 66, 67, 68, 69, 70, 71, 72, 73, 74, 75, 76, 77, 78, 79, 80, 81, 82, 83, 84, 85, 86, 87, 88, 89, 90, 91, 92, 93, 94, 95, 96, 97, 98, 99, 100, 101, 102, 103, 104, 14, 105, 106, 107, 108, 109, 110, 111, 112, 113, 114, 115, 116, 117, 118, 119, 120, 121, 122, 123, 124, 125, 126, 127, 128, 129, 130, 131, 132, 133, 134, 135, 158, 159, 160, 161, 162, 163, 164, 172, 173, 174, 175, 176, 177, 178, 179, 180, 181, 182, 183, 184, 165, 166, 167, 168, 169, 170, 171, 185] (by decide +kernel) (by decide +kernel)
set_option maxRecDepth 20000 in
theorem gX7_member_X7_measured : GoodIn wsX7_member (wsV RX7 87 RX7 yX7_measured wsX7_measured) := goodIn_app (goodIn_of _ (by decide +kernel)) ggX7_member_X7_measured
set_option maxRecDepth 20000 in
theorem ggX7_member_X7_memberValue : GoodIn wsX7_member wsX7_memberValue := goodIn_r _ [139, 1, 140, 141, 142, 5, 143, 110, 52, 53, 54, 55, 56, 57, 58, 48, 49, 50, 51, 7, 8, 9, 10, 11, 144, 69, 70, 71, 97, 98, 99, 100, 101, 102, 103, 145, 107, 108, 109, 104, 14, 105, 146, 147, 148, 34, 149, 42, 43, 72, 150, 151, 152, 153, 36, 154, 155, 156, 157, 38, 39, 158, 159, 160, 161, 162, 163, 164, 165, 166, 167, 168, 169, 170, 171, 185, 172, 173, 174, 175, 176, 177, 178, 179, 180, 181, 182, 183, 184] (by decide +kernel) (by decide +kernel)
set_option maxRecDepth 20000 in
theorem gX7_member_X7_memberValue : GoodIn wsX7_member (wsV RX7 91 RX7 yX7_memberValue wsX7_memberValue) := goodIn_app (goodIn_of _ (by decide +kernel)) ggX7_member_X7_memberValue
theorem dX7_member_0 : decode cX7_member 0 = .ok (.aload_n 0, 1) := by decide +kernel
theorem dX7_member_1 : decode cX7_member 1 = .ok (.getfield 10, 3) := by decide +kernel
theorem dX7_member_4 : decode cX7_member 4 = .ok (.iload_n 1, 1) := by decide +kernel
theorem dX7_member_5 : decode cX7_member 5 = .ok (.invokevirtual 75, 3) := by decide +kernel
theorem dX7_member_8 : decode cX7_member 8 = .ok (.invokestatic 79, 3) := by decide +kernel
theorem dX7_member_11 : decode cX7_member 11 = .ok (.iload_n 2, 1) := by decide +kernel
theorem dX7_member_12 : decode cX7_member 12 = .ok (.iconst 0, 1) := by decide +kernel
theorem dX7_member_13 : decode cX7_member 13 = .ok (.bipush 7, 2) := by decide +kernel
theorem dX7_member_15 : decode cX7_member 15 = .ok (.invokestatic 83, 3) := by decide +kernel
theorem dX7_member_18 : decode cX7_member 18 = .ok (.invokestatic 79, 3) := by decide +kernel
theorem dX7_member_21 : decode cX7_member 21 = .ok (.aload_n 0, 1) := by decide +kernel
theorem dX7_member_22 : decode cX7_member 22 = .ok (.aload_n 0, 1) := by decide +kernel
theorem dX7_member_23 : decode cX7_member 23 = .ok (.invokevirtual 87, 3) := by decide +kernel
theorem dX7_member_26 : decode cX7_member 26 = .ok (.iload_n 1, 1) := by decide +kernel
theorem dX7_member_27 : decode cX7_member 27 = .ok (.iload_n 2, 1) := by decide +kernel
theorem dX7_member_28 : decode cX7_member 28 = .ok (.invokevirtual 91, 3) := by decide +kernel
theorem dX7_member_31 : decode cX7_member 31 = .ok (.ireturn, 1) := by decide +kernel
set_option maxRecDepth 20000 in
theorem ggX7_rule_X6_faultOfRule : GoodIn wsX7_rule wsX6_faultOfRule := goodIn_r _ [6, 7, 58, 59, 60, 61, 62, 63, 64] (by decide +kernel) (by decide +kernel)
set_option maxRecDepth 20000 in
theorem gX7_rule_X6_faultOfRule : GoodIn wsX7_rule (wsV RX7 95 RX6 yX6_faultOfRule wsX6_faultOfRule) := goodIn_app (goodIn_of _ (by decide +kernel)) ggX7_rule_X6_faultOfRule
set_option maxRecDepth 20000 in
theorem ggX7_rule_X7_refuse : GoodIn wsX7_rule wsX7_refuse := goodIn_ca (goodIn_ca (goodIn_ca (goodIn_r _ [11, 12, 13, 14, 15, 16, 17] (by decide +kernel) (by decide +kernel)) (goodIn_sub (fun _ h => List.mem_cons_of_mem _ (List.mem_append_left _ (List.mem_append_left _ (List.mem_append_right _ h)))) (by decide +kernel))) (goodIn_sub (fun _ h => List.mem_cons_of_mem _ (List.mem_append_left _ (List.mem_append_right _ h))) (by decide +kernel))) (goodIn_sub (fun _ h => List.mem_cons_of_mem _ (List.mem_append_right _ h)) (by decide +kernel))
set_option maxRecDepth 20000 in
theorem gX7_rule_X7_refuse : GoodIn wsX7_rule (va_wsS RX7 79 yX7_refuse wsX7_refuse) := goodIn_app (goodIn_of _ (by decide +kernel)) ggX7_rule_X7_refuse
set_option maxRecDepth 20000 in
theorem ggX7_rule_X7_faultOfRange : GoodIn wsX7_rule wsX7_faultOfRange := goodIn_r _ [20] (by decide +kernel) (by decide +kernel)
set_option maxRecDepth 20000 in
theorem gX7_rule_X7_faultOfRange : GoodIn wsX7_rule (va_wsS RX7 83 yX7_faultOfRange wsX7_faultOfRange) := goodIn_app (goodIn_of _ (by decide +kernel)) ggX7_rule_X7_faultOfRange
set_option maxRecDepth 20000 in
theorem ggX7_rule_X6_ruleValue : GoodIn wsX7_rule wsX6_ruleValue := goodIn_r _ [24, 25, 26, 27, 28, 29, 30, 31, 32, 33, 34, 35, 5, 36, 37, 38, 39, 40, 41, 42, 43, 44, 45, 46, 47, 48, 49, 10, 50, 58, 59, 60, 61, 62, 63, 64, 65] (by decide +kernel) (by decide +kernel)
set_option maxRecDepth 20000 in
theorem gX7_rule_X6_ruleValue : GoodIn wsX7_rule (wsV RX7 98 RX6 yX6_ruleValue wsX6_ruleValue) := goodIn_app (goodIn_of _ (by decide +kernel)) ggX7_rule_X6_ruleValue
theorem dX7_rule_0 : decode cX7_rule 0 = .ok (.aload_n 0, 1) := by decide +kernel
theorem dX7_rule_1 : decode cX7_rule 1 = .ok (.getfield 10, 3) := by decide +kernel
theorem dX7_rule_4 : decode cX7_rule 4 = .ok (.iload_n 1, 1) := by decide +kernel
theorem dX7_rule_5 : decode cX7_rule 5 = .ok (.invokevirtual 95, 3) := by decide +kernel
theorem dX7_rule_8 : decode cX7_rule 8 = .ok (.invokestatic 79, 3) := by decide +kernel
theorem dX7_rule_11 : decode cX7_rule 11 = .ok (.iload_n 2, 1) := by decide +kernel
theorem dX7_rule_12 : decode cX7_rule 12 = .ok (.iconst 0, 1) := by decide +kernel
theorem dX7_rule_13 : decode cX7_rule 13 = .ok (.iconst 2, 1) := by decide +kernel
theorem dX7_rule_14 : decode cX7_rule 14 = .ok (.invokestatic 83, 3) := by decide +kernel
theorem dX7_rule_17 : decode cX7_rule 17 = .ok (.invokestatic 79, 3) := by decide +kernel
theorem dX7_rule_20 : decode cX7_rule 20 = .ok (.aload_n 0, 1) := by decide +kernel
theorem dX7_rule_21 : decode cX7_rule 21 = .ok (.getfield 10, 3) := by decide +kernel
theorem dX7_rule_24 : decode cX7_rule 24 = .ok (.iload_n 1, 1) := by decide +kernel
theorem dX7_rule_25 : decode cX7_rule 25 = .ok (.iload_n 2, 1) := by decide +kernel
theorem dX7_rule_26 : decode cX7_rule 26 = .ok (.invokevirtual 98, 3) := by decide +kernel
theorem dX7_rule_29 : decode cX7_rule 29 = .ok (.ireturn, 1) := by decide +kernel
set_option maxRecDepth 20000 in
theorem ggX7_whole_X7_faultOfRange : GoodIn wsX7_whole wsX7_faultOfRange := goodIn_r _ [4] (by decide +kernel) (by decide +kernel)
set_option maxRecDepth 20000 in
theorem gX7_whole_X7_faultOfRange : GoodIn wsX7_whole (va_wsS RX7 83 yX7_faultOfRange wsX7_faultOfRange) := goodIn_app (goodIn_of _ (by decide +kernel)) ggX7_whole_X7_faultOfRange
set_option maxRecDepth 20000 in
theorem ggX7_whole_X7_refuse : GoodIn wsX7_whole wsX7_refuse := goodIn_ca (goodIn_ca (goodIn_ca (goodIn_r _ [7, 8, 9, 10, 11, 12, 13] (by decide +kernel) (by decide +kernel)) (goodIn_sub (fun _ h => List.mem_cons_of_mem _ (List.mem_append_left _ (List.mem_append_left _ (List.mem_append_right _ h)))) (by decide +kernel))) (goodIn_sub (fun _ h => List.mem_cons_of_mem _ (List.mem_append_left _ (List.mem_append_right _ h))) (by decide +kernel))) (goodIn_sub (fun _ h => List.mem_cons_of_mem _ (List.mem_append_right _ h)) (by decide +kernel))
set_option maxRecDepth 20000 in
theorem gX7_whole_X7_refuse : GoodIn wsX7_whole (va_wsS RX7 79 yX7_refuse wsX7_refuse) := goodIn_app (goodIn_of _ (by decide +kernel)) ggX7_whole_X7_refuse
set_option maxRecDepth 20000 in
theorem ggX7_whole_X7_measured : GoodIn wsX7_whole wsX7_measured := goodIn_r _ [17, 18, 19, 20, 21, 22, 23, 24, 25, 26, 27, 28, 29, 30, 31, 32, 33, 34, 35, 36, 37, 38, 39, 40, 41, 42, 43, 44, 45, 46, 47, 48, 49, 50, 51, 52, 53, 54, 55, 56, 57, 58, 59, 60, 61, 62, 63, 64, 65, 66, 67, 68, 69, 70, 71, 72, 73, 74, 75, 76, 77, 78, 79, 80, 81, 82, 83, 84, 85, 86, 87, 88, 89, 90, 91, 92, 93, 94, 95, 96, 97, 98, 99, 100, 3, 101, 102, 103, 104, 105, 106, 107, 108, 109, 110, 111, 112, 113, 114, 115, 116, 117, 118, 119, 120, 121, 122, 123, 124, 125, 126, 127, 128, 129, 130, 131, 161, 162, 163, 164, 165, 166, 167, 168, 169, 170, 171, 172, 173, 174, 175, 176, 177, 178, 179, 180, 181, 182, 183, 184, 185, 186, 187, 188] (by decide +kernel) (by decide +kernel)
set_option maxRecDepth 20000 in
theorem gX7_whole_X7_measured : GoodIn wsX7_whole (wsV RX7 87 RX7 yX7_measured wsX7_measured) := goodIn_app (goodIn_of _ (by decide +kernel)) ggX7_whole_X7_measured
set_option maxRecDepth 20000 in
theorem ggX7_whole_X7_wholeValue : GoodIn wsX7_whole wsX7_wholeValue := goodIn_r _ [135, 136, 20, 137, 138, 139, 37, 140, 39, 141, 86, 142, 35, 36, 38, 40, 41, 42, 43, 44, 45, 46, 47, 48, 49, 50, 51, 52, 53, 54, 93, 94, 95, 96, 97, 98, 99, 143, 79, 80, 81, 144, 103, 104, 105, 106, 100, 3, 101, 145, 146, 147, 148, 92, 149, 150, 151, 24, 152, 28, 30, 31, 153, 154, 155, 156, 26, 32, 68, 157, 158, 159, 160, 29, 161, 162, 163, 164, 165, 166, 167, 189, 190, 191, 192, 193, 194, 181, 182, 183, 184, 185, 186, 187, 188, 168, 169, 170, 171, 172, 173, 174, 175, 176, 177, 178, 179, 180] (by decide +kernel) (by decide +kernel)
set_option maxRecDepth 20000 in
theorem gX7_whole_X7_wholeValue : GoodIn wsX7_whole (wsV RX7 102 RX7 yX7_wholeValue wsX7_wholeValue) := goodIn_app (goodIn_of _ (by decide +kernel)) ggX7_whole_X7_wholeValue
theorem dX7_whole_0 : decode cX7_whole 0 = .ok (.iload_n 1, 1) := by decide +kernel
theorem dX7_whole_1 : decode cX7_whole 1 = .ok (.iconst 0, 1) := by decide +kernel
theorem dX7_whole_2 : decode cX7_whole 2 = .ok (.bipush 11, 2) := by decide +kernel
theorem dX7_whole_4 : decode cX7_whole 4 = .ok (.invokestatic 83, 3) := by decide +kernel
theorem dX7_whole_7 : decode cX7_whole 7 = .ok (.invokestatic 79, 3) := by decide +kernel
theorem dX7_whole_10 : decode cX7_whole 10 = .ok (.aload_n 0, 1) := by decide +kernel
theorem dX7_whole_11 : decode cX7_whole 11 = .ok (.aload_n 0, 1) := by decide +kernel
theorem dX7_whole_12 : decode cX7_whole 12 = .ok (.invokevirtual 87, 3) := by decide +kernel
theorem dX7_whole_15 : decode cX7_whole 15 = .ok (.iload_n 1, 1) := by decide +kernel
theorem dX7_whole_16 : decode cX7_whole 16 = .ok (.invokevirtual 102, 3) := by decide +kernel
theorem dX7_whole_19 : decode cX7_whole 19 = .ok (.ireturn, 1) := by decide +kernel
set_option maxRecDepth 20000 in
theorem ggX7_wins_X6_faultOfSet : GoodIn wsX7_wins wsX6_faultOfSet := goodIn_r _ [6, 7, 8, 9, 5, 10, 11, 12, 13, 14, 144, 145, 146, 147, 148, 149, 150] (by decide +kernel) (by decide +kernel)
set_option maxRecDepth 20000 in
theorem gX7_wins_X6_faultOfSet : GoodIn wsX7_wins (wsV RX7 106 RX6 yX6_faultOfSet wsX6_faultOfSet) := goodIn_app (goodIn_of _ (by decide +kernel)) ggX7_wins_X6_faultOfSet
set_option maxRecDepth 20000 in
theorem ggX7_wins_X7_refuse : GoodIn wsX7_wins wsX7_refuse := goodIn_ca (goodIn_ca (goodIn_ca (goodIn_r _ [17, 18, 19, 20, 21, 22, 23] (by decide +kernel) (by decide +kernel)) (goodIn_sub (fun _ h => List.mem_cons_of_mem _ (List.mem_append_left _ (List.mem_append_left _ (List.mem_append_right _ h)))) (by decide +kernel))) (goodIn_sub (fun _ h => List.mem_cons_of_mem _ (List.mem_append_left _ (List.mem_append_right _ h))) (by decide +kernel))) (goodIn_sub (fun _ h => List.mem_cons_of_mem _ (List.mem_append_right _ h)) (by decide +kernel))
set_option maxRecDepth 20000 in
theorem gX7_wins_X7_refuse : GoodIn wsX7_wins (va_wsS RX7 79 yX7_refuse wsX7_refuse) := goodIn_app (goodIn_of _ (by decide +kernel)) ggX7_wins_X7_refuse
set_option maxRecDepth 20000 in
theorem ggX7_wins_X7_measured : GoodIn wsX7_wins wsX7_measured := goodIn_r _ [27, 28, 29, 1, 30, 31, 32, 33, 34, 35, 36, 37, 38, 39, 40, 41, 42, 43, 44, 45, 5, 46, 11, 47, 48, 49, 50, 51, 52, 53, 54, 55, 56, 57, 58, 59, 60, 61, 62, 63, 64, 65, 66, 67, 68, 69, 70, 71, 72, 73, 74, 75, 76, 77, 78, 79, 80, 81, 82, 83, 84, 85, 8, 9, 10, 86, 87, 88, 89, 90, 91, 92, 93, 94, 95, 96, 97, 98, 99, 100, 101, 102, 103, 104, 13, 105, 106, 107, 108, 109, 110, 111, 112, 113, 114, 115, 116, 117, 118, 119, 120, 121, 122, 123, 124, 125, 126, 127, 128, 129, 130, 131, 132, 133, 134, 135, 137, 138, 139, 140, 141, 142, 143, 151, 152, 153, 154, 155, 156, 157, 158, 159, 160, 161, 162, 163, 144, 145, 146, 147, 148, 149, 150, 164] (by decide +kernel) (by decide +kernel)
set_option maxRecDepth 20000 in
theorem gX7_wins_X7_measured : GoodIn wsX7_wins (wsV RX7 87 RX7 yX7_measured wsX7_measured) := goodIn_app (goodIn_of _ (by decide +kernel)) ggX7_wins_X7_measured
set_option maxRecDepth 20000 in
theorem ggX7_wins_X3_isWinning : GoodIn wsX7_wins wsX3_isWinning := goodIn_r _ [118, 84, 36, 75, 57, 58, 59, 60, 61, 151, 152, 153, 154, 155, 156, 157, 158, 159, 160, 161, 162, 163, 164] (by decide +kernel) (by decide +kernel)
set_option maxRecDepth 20000 in
theorem gX7_wins_X3_isWinning : GoodIn wsX7_wins (wsV RX7 109 RX3 yX3_isWinning wsX3_isWinning) := goodIn_app (goodIn_of _ (by decide +kernel)) ggX7_wins_X3_isWinning
theorem dX7_wins_0 : decode cX7_wins 0 = .ok (.aload_n 0, 1) := by decide +kernel
theorem dX7_wins_1 : decode cX7_wins 1 = .ok (.getfield 10, 3) := by decide +kernel
theorem dX7_wins_4 : decode cX7_wins 4 = .ok (.iload_n 1, 1) := by decide +kernel
theorem dX7_wins_5 : decode cX7_wins 5 = .ok (.invokevirtual 106, 3) := by decide +kernel
theorem dX7_wins_8 : decode cX7_wins 8 = .ok (.invokestatic 79, 3) := by decide +kernel
theorem dX7_wins_11 : decode cX7_wins 11 = .ok (.aload_n 0, 1) := by decide +kernel
theorem dX7_wins_12 : decode cX7_wins 12 = .ok (.invokevirtual 87, 3) := by decide +kernel
theorem dX7_wins_15 : decode cX7_wins 15 = .ok (.iload_n 1, 1) := by decide +kernel
theorem dX7_wins_16 : decode cX7_wins 16 = .ok (.invokevirtual 109, 3) := by decide +kernel
theorem dX7_wins_19 : decode cX7_wins 19 = .ok (.ifCond .eq 7, 3) := by decide +kernel
theorem dX7_wins_22 : decode cX7_wins 22 = .ok (.iconst 1, 1) := by decide +kernel
theorem dX7_wins_23 : decode cX7_wins 23 = .ok (.goto 4, 3) := by decide +kernel
theorem dX7_wins_26 : decode cX7_wins 26 = .ok (.iconst 0, 1) := by decide +kernel
theorem dX7_wins_27 : decode cX7_wins 27 = .ok (.ireturn, 1) := by decide +kernel
set_option maxRecDepth 20000 in
theorem ggX7_least_X7_refuse : GoodIn wsX7_least wsX7_refuse := goodIn_ca (goodIn_ca (goodIn_ca (goodIn_r _ [4, 5, 6, 7, 8, 9, 10] (by decide +kernel) (by decide +kernel)) (goodIn_sub (fun _ h => List.mem_cons_of_mem _ (List.mem_append_left _ (List.mem_append_left _ (List.mem_append_right _ h)))) (by decide +kernel))) (goodIn_sub (fun _ h => List.mem_cons_of_mem _ (List.mem_append_left _ (List.mem_append_right _ h))) (by decide +kernel))) (goodIn_sub (fun _ h => List.mem_cons_of_mem _ (List.mem_append_right _ h)) (by decide +kernel))
set_option maxRecDepth 20000 in
theorem gX7_least_X7_refuse : GoodIn wsX7_least (va_wsS RX7 79 yX7_refuse wsX7_refuse) := goodIn_app (goodIn_of _ (by decide +kernel)) ggX7_least_X7_refuse
set_option maxRecDepth 20000 in
theorem ggX7_least_X7_measured : GoodIn wsX7_least wsX7_measured := goodIn_r _ [14, 15, 16, 17, 18, 19, 20, 21, 22, 23, 24, 25, 26, 27, 28, 29, 30, 31, 32, 33, 34, 35, 36, 37, 38, 39, 40, 41, 42, 43, 44, 45, 46, 47, 48, 49, 50, 51, 52, 53, 54, 55, 56, 57, 58, 59, 60, 61, 62, 63, 64, 65, 66, 67, 68, 69, 70, 71, 72, 73, 74, 75, 76, 77, 78, 79, 80, 81, 82, 83, 84, 85, 86, 87, 88, 89, 90, 91, 92, 93, 94, 95, 96, 97, 3, 98, 99, 100, 101, 102, 103, 104, 105, 106, 107, 108, 109, 110, 111, 112, 113, 114, 115, 116, 117, 118, 119, 120, 121, 122, 123, 124, 125, 126, 127, 128, 143, 144, 145, 146, 147, 148, 149, 130, 131, 132, 133, 134, 135, 136, 137, 138, 139, 140, 141, 142, 150, 151, 152, 153, 154, 155, 156, 157] (by decide +kernel) (by decide +kernel)
set_option maxRecDepth 20000 in
theorem gX7_least_X7_measured : GoodIn wsX7_least (wsV RX7 87 RX7 yX7_measured wsX7_measured) := goodIn_app (goodIn_of _ (by decide +kernel)) ggX7_least_X7_measured
set_option maxRecDepth 20000 in
theorem ggX7_least_X4_at : GoodIn wsX7_least wsX4_at := goodIn_r _ [50, 51, 157] (by decide +kernel) (by decide +kernel)
set_option maxRecDepth 20000 in
theorem gX7_least_X4_at : GoodIn wsX7_least (wsV RX7 121 RX4 yX4_at wsX4_at) := goodIn_app (goodIn_of _ (by decide +kernel)) ggX7_least_X4_at
theorem dX7_least_0 : decode cX7_least 0 = .ok (.iload_n 1, 1) := by decide +kernel
theorem dX7_least_1 : decode cX7_least 1 = .ok (.ifCond .ge 7, 3) := by decide +kernel
theorem dX7_least_4 : decode cX7_least 4 = .ok (.iconst 2, 1) := by decide +kernel
theorem dX7_least_5 : decode cX7_least 5 = .ok (.goto 4, 3) := by decide +kernel
theorem dX7_least_8 : decode cX7_least 8 = .ok (.iconst 0, 1) := by decide +kernel
theorem dX7_least_9 : decode cX7_least 9 = .ok (.invokestatic 79, 3) := by decide +kernel
theorem dX7_least_12 : decode cX7_least 12 = .ok (.aload_n 0, 1) := by decide +kernel
theorem dX7_least_13 : decode cX7_least 13 = .ok (.invokevirtual 87, 3) := by decide +kernel
theorem dX7_least_16 : decode cX7_least 16 = .ok (.astore_n 2, 1) := by decide +kernel
theorem dX7_least_17 : decode cX7_least 17 = .ok (.iload_n 1, 1) := by decide +kernel
theorem dX7_least_18 : decode cX7_least 18 = .ok (.aload_n 2, 1) := by decide +kernel
theorem dX7_least_19 : decode cX7_least 19 = .ok (.getfield 113, 3) := by decide +kernel
theorem dX7_least_22 : decode cX7_least 22 = .ok (.if_icmp .ge 14, 3) := by decide +kernel
theorem dX7_least_25 : decode cX7_least 25 = .ok (.aload_n 2, 1) := by decide +kernel
theorem dX7_least_26 : decode cX7_least 26 = .ok (.getfield 117, 3) := by decide +kernel
theorem dX7_least_29 : decode cX7_least 29 = .ok (.iload_n 1, 1) := by decide +kernel
theorem dX7_least_30 : decode cX7_least 30 = .ok (.invokevirtual 121, 3) := by decide +kernel
theorem dX7_least_33 : decode cX7_least 33 = .ok (.goto 4, 3) := by decide +kernel
theorem dX7_least_36 : decode cX7_least 36 = .ok (.iconst (-1), 1) := by decide +kernel
theorem dX7_least_37 : decode cX7_least 37 = .ok (.ireturn, 1) := by decide +kernel
set_option maxRecDepth 20000 in
theorem ggX7_share_X6_faultOfMember : GoodIn wsX7_share wsX6_faultOfMember := goodIn_r _ [6, 7, 8, 9, 5, 10, 11, 144, 145, 146, 147, 148, 149, 150] (by decide +kernel) (by decide +kernel)
set_option maxRecDepth 20000 in
theorem gX7_share_X6_faultOfMember : GoodIn wsX7_share (wsV RX7 75 RX6 yX6_faultOfMember wsX6_faultOfMember) := goodIn_app (goodIn_of _ (by decide +kernel)) ggX7_share_X6_faultOfMember
set_option maxRecDepth 20000 in
theorem ggX7_share_X7_refuse : GoodIn wsX7_share wsX7_refuse := goodIn_ca (goodIn_ca (goodIn_ca (goodIn_r _ [15, 16, 17, 18, 19, 20, 21] (by decide +kernel) (by decide +kernel)) (goodIn_sub (fun _ h => List.mem_cons_of_mem _ (List.mem_append_left _ (List.mem_append_left _ (List.mem_append_right _ h)))) (by decide +kernel))) (goodIn_sub (fun _ h => List.mem_cons_of_mem _ (List.mem_append_left _ (List.mem_append_right _ h))) (by decide +kernel))) (goodIn_sub (fun _ h => List.mem_cons_of_mem _ (List.mem_append_right _ h)) (by decide +kernel))
set_option maxRecDepth 20000 in
theorem gX7_share_X7_refuse : GoodIn wsX7_share (va_wsS RX7 79 yX7_refuse wsX7_refuse) := goodIn_app (goodIn_of _ (by decide +kernel)) ggX7_share_X7_refuse
set_option maxRecDepth 20000 in
theorem ggX7_share_X7_measured : GoodIn wsX7_share wsX7_measured := goodIn_r _ [25, 26, 27, 1, 28, 29, 30, 31, 32, 33, 34, 35, 36, 37, 38, 39, 40, 41, 42, 43, 5, 44, 11, 45, 46, 47, 48, 49, 7, 8, 9, 10, 50, 51, 52, 53, 54, 55, 56, 57, 58, 59, 60, 61, 62, 63, 64, 65, 66, 67, 68, 69, 70, 71, 72, 73, 74, 75, 76, 77, 78, 79, 80, 81, 82, 83, 84, 85, 86, 87, 88, 89, 90, 91, 92, 93, 94, 95, 96, 97, 98, 99, 100, 101, 14, 102, 103, 104, 105, 106, 107, 108, 109, 110, 111, 112, 113, 114, 115, 116, 117, 118, 119, 120, 121, 122, 123, 124, 125, 126, 127, 128, 129, 130, 131, 132, 137, 138, 139, 140, 141, 142, 143, 151, 152, 153, 154, 155, 156, 157, 158, 159, 160, 161, 162, 163, 144, 145, 146, 147, 148, 149, 150, 164] (by decide +kernel) (by decide +kernel)
set_option maxRecDepth 20000 in
theorem gX7_share_X7_measured : GoodIn wsX7_share (wsV RX7 87 RX7 yX7_measured wsX7_measured) := goodIn_app (goodIn_of _ (by decide +kernel)) ggX7_share_X7_measured
set_option maxRecDepth 20000 in
theorem ggX7_share_X3_shareOf : GoodIn wsX7_share wsX3_shareOf := goodIn_r _ [136, 38, 39, 69, 51, 52, 53, 54, 55, 151, 152, 153, 154, 155, 156, 157, 158, 159, 160, 161, 162, 163, 164] (by decide +kernel) (by decide +kernel)
set_option maxRecDepth 20000 in
theorem gX7_share_X3_shareOf : GoodIn wsX7_share (wsV RX7 126 RX3 yX3_shareOf wsX3_shareOf) := goodIn_app (goodIn_of _ (by decide +kernel)) ggX7_share_X3_shareOf
theorem dX7_share_0 : decode cX7_share 0 = .ok (.aload_n 0, 1) := by decide +kernel
theorem dX7_share_1 : decode cX7_share 1 = .ok (.getfield 10, 3) := by decide +kernel
theorem dX7_share_4 : decode cX7_share 4 = .ok (.iload_n 1, 1) := by decide +kernel
theorem dX7_share_5 : decode cX7_share 5 = .ok (.invokevirtual 75, 3) := by decide +kernel
theorem dX7_share_8 : decode cX7_share 8 = .ok (.invokestatic 79, 3) := by decide +kernel
theorem dX7_share_11 : decode cX7_share 11 = .ok (.aload_n 0, 1) := by decide +kernel
theorem dX7_share_12 : decode cX7_share 12 = .ok (.invokevirtual 87, 3) := by decide +kernel
theorem dX7_share_15 : decode cX7_share 15 = .ok (.iload_n 1, 1) := by decide +kernel
theorem dX7_share_16 : decode cX7_share 16 = .ok (.invokevirtual 126, 3) := by decide +kernel
theorem dX7_share_19 : decode cX7_share 19 = .ok (.freturn, 1) := by decide +kernel
set_option maxRecDepth 20000 in
theorem ggX7_part_X6_faultOfMember : GoodIn wsX7_part wsX6_faultOfMember := goodIn_r _ [6, 7, 8, 9, 5, 10, 11, 144, 145, 146, 147, 148, 149, 150] (by decide +kernel) (by decide +kernel)
set_option maxRecDepth 20000 in
theorem gX7_part_X6_faultOfMember : GoodIn wsX7_part (wsV RX7 75 RX6 yX6_faultOfMember wsX6_faultOfMember) := goodIn_app (goodIn_of _ (by decide +kernel)) ggX7_part_X6_faultOfMember
set_option maxRecDepth 20000 in
theorem ggX7_part_X7_refuse : GoodIn wsX7_part wsX7_refuse := goodIn_ca (goodIn_ca (goodIn_ca (goodIn_r _ [15, 16, 17, 18, 19, 20, 21] (by decide +kernel) (by decide +kernel)) (goodIn_sub (fun _ h => List.mem_cons_of_mem _ (List.mem_append_left _ (List.mem_append_left _ (List.mem_append_right _ h)))) (by decide +kernel))) (goodIn_sub (fun _ h => List.mem_cons_of_mem _ (List.mem_append_left _ (List.mem_append_right _ h))) (by decide +kernel))) (goodIn_sub (fun _ h => List.mem_cons_of_mem _ (List.mem_append_right _ h)) (by decide +kernel))
set_option maxRecDepth 20000 in
theorem gX7_part_X7_refuse : GoodIn wsX7_part (va_wsS RX7 79 yX7_refuse wsX7_refuse) := goodIn_app (goodIn_of _ (by decide +kernel)) ggX7_part_X7_refuse
set_option maxRecDepth 20000 in
theorem ggX7_part_X7_measured : GoodIn wsX7_part wsX7_measured := goodIn_r _ [25, 26, 27, 1, 28, 29, 30, 31, 32, 33, 34, 35, 36, 37, 38, 39, 40, 41, 42, 43, 5, 44, 11, 45, 46, 47, 48, 49, 7, 8, 9, 10, 50, 51, 52, 53, 54, 55, 56, 57, 58, 59, 60, 61, 62, 63, 64, 65, 66, 67, 68, 69, 70, 71, 72, 73, 74, 75, 76, 77, 78, 79, 80, 81, 82, 83, 84, 85, 86, 87, 88, 89, 90, 91, 92, 93, 94, 95, 96, 97, 98, 99, 100, 101, 14, 102, 103, 104, 105, 106, 107, 108, 109, 110, 111, 112, 113, 114, 115, 116, 117, 118, 119, 120, 121, 122, 123, 124, 125, 126, 127, 128, 129, 130, 131, 132, 137, 138, 139, 140, 141, 142, 143, 151, 152, 153, 154, 155, 156, 157, 158, 159, 160, 161, 162, 163, 144, 145, 146, 147, 148, 149, 150, 164] (by decide +kernel) (by decide +kernel)
set_option maxRecDepth 20000 in
theorem gX7_part_X7_measured : GoodIn wsX7_part (wsV RX7 87 RX7 yX7_measured wsX7_measured) := goodIn_app (goodIn_of _ (by decide +kernel)) ggX7_part_X7_measured
set_option maxRecDepth 20000 in
theorem ggX7_part_X3_partOf : GoodIn wsX7_part wsX3_partOf := goodIn_r _ [136, 40, 125, 126, 127, 31, 128, 33, 121, 95, 96, 97, 98, 99, 100, 122, 14, 123, 124, 69, 51, 52, 53, 54, 55, 151, 152, 153, 154, 155, 156, 157, 158, 159, 160, 161, 162, 163, 164] (by decide +kernel) (by decide +kernel)
set_option maxRecDepth 20000 in
theorem gX7_part_X3_partOf : GoodIn wsX7_part (wsV RX7 130 RX3 yX3_partOf wsX3_partOf) := goodIn_app (goodIn_of _ (by decide +kernel)) ggX7_part_X3_partOf
theorem dX7_part_0 : decode cX7_part 0 = .ok (.aload_n 0, 1) := by decide +kernel
theorem dX7_part_1 : decode cX7_part 1 = .ok (.getfield 10, 3) := by decide +kernel
theorem dX7_part_4 : decode cX7_part 4 = .ok (.iload_n 1, 1) := by decide +kernel
theorem dX7_part_5 : decode cX7_part 5 = .ok (.invokevirtual 75, 3) := by decide +kernel
theorem dX7_part_8 : decode cX7_part 8 = .ok (.invokestatic 79, 3) := by decide +kernel
theorem dX7_part_11 : decode cX7_part 11 = .ok (.aload_n 0, 1) := by decide +kernel
theorem dX7_part_12 : decode cX7_part 12 = .ok (.invokevirtual 87, 3) := by decide +kernel
theorem dX7_part_15 : decode cX7_part 15 = .ok (.iload_n 1, 1) := by decide +kernel
theorem dX7_part_16 : decode cX7_part 16 = .ok (.invokevirtual 130, 3) := by decide +kernel
theorem dX7_part_19 : decode cX7_part 19 = .ok (.dreturn, 1) := by decide +kernel
theorem dX7_refuse_0 : decode cX7_refuse 0 = .ok (.iload_n 0, 1) := by decide +kernel
theorem dX7_refuse_1 : decode cX7_refuse 1 = .ok (.iconst 1, 1) := by decide +kernel
theorem dX7_refuse_2 : decode cX7_refuse 2 = .ok (.if_icmp .ne 13, 3) := by decide +kernel
theorem dX7_refuse_5 : decode cX7_refuse 5 = .ok (.new 238, 3) := by decide +kernel
theorem dX7_refuse_8 : decode cX7_refuse 8 = .ok (.dup, 1) := by decide +kernel
theorem dX7_refuse_9 : decode cX7_refuse 9 = .ok (.ldc 240, 2) := by decide +kernel
theorem dX7_refuse_11 : decode cX7_refuse 11 = .ok (.invokespecial 242, 3) := by decide +kernel
theorem dX7_refuse_14 : decode cX7_refuse 14 = .ok (.athrow, 1) := by decide +kernel
theorem dX7_refuse_15 : decode cX7_refuse 15 = .ok (.iload_n 0, 1) := by decide +kernel
theorem dX7_refuse_16 : decode cX7_refuse 16 = .ok (.iconst 2, 1) := by decide +kernel
theorem dX7_refuse_17 : decode cX7_refuse 17 = .ok (.if_icmp .ne 13, 3) := by decide +kernel
theorem dX7_refuse_20 : decode cX7_refuse 20 = .ok (.new 245, 3) := by decide +kernel
theorem dX7_refuse_23 : decode cX7_refuse 23 = .ok (.dup, 1) := by decide +kernel
theorem dX7_refuse_24 : decode cX7_refuse 24 = .ok (.ldc 247, 2) := by decide +kernel
theorem dX7_refuse_26 : decode cX7_refuse 26 = .ok (.invokespecial 249, 3) := by decide +kernel
theorem dX7_refuse_29 : decode cX7_refuse 29 = .ok (.athrow, 1) := by decide +kernel
theorem dX7_refuse_30 : decode cX7_refuse 30 = .ok (.iload_n 0, 1) := by decide +kernel
theorem dX7_refuse_31 : decode cX7_refuse 31 = .ok (.iconst 3, 1) := by decide +kernel
theorem dX7_refuse_32 : decode cX7_refuse 32 = .ok (.if_icmp .ne 13, 3) := by decide +kernel
theorem dX7_refuse_35 : decode cX7_refuse 35 = .ok (.new 250, 3) := by decide +kernel
theorem dX7_refuse_38 : decode cX7_refuse 38 = .ok (.dup, 1) := by decide +kernel
theorem dX7_refuse_39 : decode cX7_refuse 39 = .ok (.ldc 252, 2) := by decide +kernel
theorem dX7_refuse_41 : decode cX7_refuse 41 = .ok (.invokespecial 254, 3) := by decide +kernel
theorem dX7_refuse_44 : decode cX7_refuse 44 = .ok (.athrow, 1) := by decide +kernel
theorem dX7_refuse_45 : decode cX7_refuse 45 = .ok (.return_, 1) := by decide +kernel
theorem dX7_faultOfRange_0 : decode cX7_faultOfRange 0 = .ok (.iload_n 0, 1) := by decide +kernel
theorem dX7_faultOfRange_1 : decode cX7_faultOfRange 1 = .ok (.iload_n 1, 1) := by decide +kernel
theorem dX7_faultOfRange_2 : decode cX7_faultOfRange 2 = .ok (.if_icmp .lt 8, 3) := by decide +kernel
theorem dX7_faultOfRange_5 : decode cX7_faultOfRange 5 = .ok (.iload_n 0, 1) := by decide +kernel
theorem dX7_faultOfRange_6 : decode cX7_faultOfRange 6 = .ok (.iload_n 2, 1) := by decide +kernel
theorem dX7_faultOfRange_7 : decode cX7_faultOfRange 7 = .ok (.if_icmp .le 7, 3) := by decide +kernel
theorem dX7_faultOfRange_10 : decode cX7_faultOfRange 10 = .ok (.iconst 2, 1) := by decide +kernel
theorem dX7_faultOfRange_11 : decode cX7_faultOfRange 11 = .ok (.goto 4, 3) := by decide +kernel
theorem dX7_faultOfRange_14 : decode cX7_faultOfRange 14 = .ok (.iconst 0, 1) := by decide +kernel
theorem dX7_faultOfRange_15 : decode cX7_faultOfRange 15 = .ok (.ireturn, 1) := by decide +kernel
theorem dX7_contains_0 : decode cX7_contains 0 = .ok (.iload_n 0, 1) := by decide +kernel
theorem dX7_contains_1 : decode cX7_contains 1 = .ok (.iload_n 1, 1) := by decide +kernel
theorem dX7_contains_2 : decode cX7_contains 2 = .ok (.ishr, 1) := by decide +kernel
theorem dX7_contains_3 : decode cX7_contains 3 = .ok (.iconst 1, 1) := by decide +kernel
theorem dX7_contains_4 : decode cX7_contains 4 = .ok (.iand, 1) := by decide +kernel
theorem dX7_contains_5 : decode cX7_contains 5 = .ok (.iconst 1, 1) := by decide +kernel
theorem dX7_contains_6 : decode cX7_contains 6 = .ok (.if_icmp .ne 7, 3) := by decide +kernel
theorem dX7_contains_9 : decode cX7_contains 9 = .ok (.iconst 1, 1) := by decide +kernel
theorem dX7_contains_10 : decode cX7_contains 10 = .ok (.goto 4, 3) := by decide +kernel
theorem dX7_contains_13 : decode cX7_contains 13 = .ok (.iconst 0, 1) := by decide +kernel
theorem dX7_contains_14 : decode cX7_contains 14 = .ok (.ireturn, 1) := by decide +kernel
theorem dX7_factorial_0 : decode cX7_factorial 0 = .ok (.iload_n 0, 1) := by decide +kernel
theorem dX7_factorial_1 : decode cX7_factorial 1 = .ok (.ifCond .lt 19, 3) := by decide +kernel
theorem dX7_factorial_4 : decode cX7_factorial 4 = .ok (.iload_n 0, 1) := by decide +kernel
theorem dX7_factorial_5 : decode cX7_factorial 5 = .ok (.getstatic 255, 3) := by decide +kernel
theorem dX7_factorial_8 : decode cX7_factorial 8 = .ok (.arraylength, 1) := by decide +kernel
theorem dX7_factorial_9 : decode cX7_factorial 9 = .ok (.if_icmp .ge 11, 3) := by decide +kernel
theorem dX7_factorial_12 : decode cX7_factorial 12 = .ok (.getstatic 255, 3) := by decide +kernel
theorem dX7_factorial_15 : decode cX7_factorial 15 = .ok (.iload_n 0, 1) := by decide +kernel
theorem dX7_factorial_16 : decode cX7_factorial 16 = .ok (.iaload, 1) := by decide +kernel
theorem dX7_factorial_17 : decode cX7_factorial 17 = .ok (.goto 4, 3) := by decide +kernel
theorem dX7_factorial_20 : decode cX7_factorial 20 = .ok (.iconst 0, 1) := by decide +kernel
theorem dX7_factorial_21 : decode cX7_factorial 21 = .ok (.ireturn, 1) := by decide +kernel
set_option maxRecDepth 20000 in
theorem ggX7_memberValue_X6_memberValue : GoodIn wsX7_memberValue wsX6_memberValue := goodIn_r _ [6, 7, 8, 9, 10, 11, 12, 13, 14, 15, 16, 17, 5, 18, 19, 20, 21, 22, 23, 24, 25, 26, 27, 28, 29, 30, 31, 32, 33, 34, 35, 36, 37, 38, 39, 40, 41, 68, 69, 70, 71, 72, 73, 74, 75] (by decide +kernel) (by decide +kernel)
set_option maxRecDepth 20000 in
theorem gX7_memberValue_X6_memberValue : GoodIn wsX7_memberValue (wsV RX7 263 RX6 yX6_memberValue wsX6_memberValue) := goodIn_app (goodIn_of _ (by decide +kernel)) ggX7_memberValue_X6_memberValue
set_option maxRecDepth 20000 in
theorem ggX7_memberValue_X3_memberValue : GoodIn wsX7_memberValue wsX3_memberValue := goodIn_r _ [46, 47, 48, 49, 10, 11, 12, 13, 14, 50, 51, 52, 45, 53, 54, 39, 40, 41, 55, 56, 57, 58, 59, 60, 76, 77, 78, 79, 80, 81, 82, 83, 84, 85, 86, 87, 88, 75] (by decide +kernel) (by decide +kernel)
set_option maxRecDepth 20000 in
theorem gX7_memberValue_X3_memberValue : GoodIn wsX7_memberValue (wsV RX7 265 RX3 yX3_memberValue wsX3_memberValue) := goodIn_app (goodIn_of _ (by decide +kernel)) ggX7_memberValue_X3_memberValue
theorem dX7_memberValue_0 : decode cX7_memberValue 0 = .ok (.iload_n 3, 1) := by decide +kernel
theorem dX7_memberValue_1 : decode cX7_memberValue 1 = .ok (.iconst 4, 1) := by decide +kernel
theorem dX7_memberValue_2 : decode cX7_memberValue 2 = .ok (.if_icmp .ge 15, 3) := by decide +kernel
theorem dX7_memberValue_5 : decode cX7_memberValue 5 = .ok (.aload_n 0, 1) := by decide +kernel
theorem dX7_memberValue_6 : decode cX7_memberValue 6 = .ok (.getfield 10, 3) := by decide +kernel
theorem dX7_memberValue_9 : decode cX7_memberValue 9 = .ok (.iload_n 2, 1) := by decide +kernel
theorem dX7_memberValue_10 : decode cX7_memberValue 10 = .ok (.iload_n 3, 1) := by decide +kernel
theorem dX7_memberValue_11 : decode cX7_memberValue 11 = .ok (.invokevirtual 263, 3) := by decide +kernel
theorem dX7_memberValue_14 : decode cX7_memberValue 14 = .ok (.goto 9, 3) := by decide +kernel
theorem dX7_memberValue_17 : decode cX7_memberValue 17 = .ok (.aload_n 1, 1) := by decide +kernel
theorem dX7_memberValue_18 : decode cX7_memberValue 18 = .ok (.iload_n 2, 1) := by decide +kernel
theorem dX7_memberValue_19 : decode cX7_memberValue 19 = .ok (.iload_n 3, 1) := by decide +kernel
theorem dX7_memberValue_20 : decode cX7_memberValue 20 = .ok (.invokevirtual 265, 3) := by decide +kernel
theorem dX7_memberValue_23 : decode cX7_memberValue 23 = .ok (.ireturn, 1) := by decide +kernel
set_option maxRecDepth 20000 in
theorem ggX7_wholeValue_X6_wholeValue : GoodIn wsX7_wholeValue wsX6_wholeValue := goodIn_r _ [7, 8, 9, 10, 11, 12, 13, 6, 14, 15, 16, 17, 18, 19, 20, 21, 22, 23, 24, 25, 26, 27, 28, 29, 30, 31, 32, 33, 34, 35, 36, 37, 38, 39, 40, 41, 42, 43, 44, 45, 46, 47, 48, 49, 50, 51, 52, 53, 87, 88, 89, 90, 91, 92, 93, 94] (by decide +kernel) (by decide +kernel)
set_option maxRecDepth 20000 in
theorem gX7_wholeValue_X6_wholeValue : GoodIn wsX7_wholeValue (wsV RX7 266 RX6 yX6_wholeValue wsX6_wholeValue) := goodIn_app (goodIn_of _ (by decide +kernel)) ggX7_wholeValue_X6_wholeValue
set_option maxRecDepth 20000 in
theorem ggX7_wholeValue_X3_wholeValue : GoodIn wsX7_wholeValue wsX3_wholeValue := goodIn_r _ [58, 59, 60, 61, 62, 63, 64, 57, 65, 66, 67, 46, 47, 48, 68, 25, 26, 27, 28, 29, 69, 70, 71, 72, 73, 95, 96, 97, 98, 99, 100, 101, 102, 103, 104, 105, 106, 107, 94] (by decide +kernel) (by decide +kernel)
set_option maxRecDepth 20000 in
theorem gX7_wholeValue_X3_wholeValue : GoodIn wsX7_wholeValue (wsV RX7 268 RX3 yX3_wholeValue wsX3_wholeValue) := goodIn_app (goodIn_of _ (by decide +kernel)) ggX7_wholeValue_X3_wholeValue
theorem dX7_wholeValue_0 : decode cX7_wholeValue 0 = .ok (.iload_n 2, 1) := by decide +kernel
theorem dX7_wholeValue_1 : decode cX7_wholeValue 1 = .ok (.bipush 11, 2) := by decide +kernel
theorem dX7_wholeValue_3 : decode cX7_wholeValue 3 = .ok (.if_icmp .ne 11, 3) := by decide +kernel
theorem dX7_wholeValue_6 : decode cX7_wholeValue 6 = .ok (.aload_n 0, 1) := by decide +kernel
theorem dX7_wholeValue_7 : decode cX7_wholeValue 7 = .ok (.getfield 43, 3) := by decide +kernel
theorem dX7_wholeValue_10 : decode cX7_wholeValue 10 = .ok (.getfield 201, 3) := by decide +kernel
theorem dX7_wholeValue_13 : decode cX7_wholeValue 13 = .ok (.ireturn, 1) := by decide +kernel
theorem dX7_wholeValue_14 : decode cX7_wholeValue 14 = .ok (.iload_n 2, 1) := by decide +kernel
theorem dX7_wholeValue_15 : decode cX7_wholeValue 15 = .ok (.iconst 5, 1) := by decide +kernel
theorem dX7_wholeValue_16 : decode cX7_wholeValue 16 = .ok (.if_icmp .lt 9, 3) := by decide +kernel
theorem dX7_wholeValue_19 : decode cX7_wholeValue 19 = .ok (.iload_n 2, 1) := by decide +kernel
theorem dX7_wholeValue_20 : decode cX7_wholeValue 20 = .ok (.bipush 10, 2) := by decide +kernel
theorem dX7_wholeValue_22 : decode cX7_wholeValue 22 = .ok (.if_icmp .ne 14, 3) := by decide +kernel
theorem dX7_wholeValue_25 : decode cX7_wholeValue 25 = .ok (.aload_n 0, 1) := by decide +kernel
theorem dX7_wholeValue_26 : decode cX7_wholeValue 26 = .ok (.getfield 10, 3) := by decide +kernel
theorem dX7_wholeValue_29 : decode cX7_wholeValue 29 = .ok (.iload_n 2, 1) := by decide +kernel
theorem dX7_wholeValue_30 : decode cX7_wholeValue 30 = .ok (.invokevirtual 266, 3) := by decide +kernel
theorem dX7_wholeValue_33 : decode cX7_wholeValue 33 = .ok (.goto 8, 3) := by decide +kernel
theorem dX7_wholeValue_36 : decode cX7_wholeValue 36 = .ok (.aload_n 1, 1) := by decide +kernel
theorem dX7_wholeValue_37 : decode cX7_wholeValue 37 = .ok (.iload_n 2, 1) := by decide +kernel
theorem dX7_wholeValue_38 : decode cX7_wholeValue 38 = .ok (.invokevirtual 268, 3) := by decide +kernel
theorem dX7_wholeValue_41 : decode cX7_wholeValue 41 = .ok (.ireturn, 1) := by decide +kernel
set_option maxRecDepth 20000 in
theorem ggX7_perform_X6_faultOf : GoodIn wsX7_perform wsX6_faultOf := goodIn_r _ [8, 9, 10, 11, 12, 13, 14, 15, 16, 17, 18, 19, 20, 21, 22, 23, 7, 24, 25, 26, 27, 28, 29, 30, 31, 32, 33, 34, 35, 36, 37, 38, 39, 40, 41, 42, 43, 44, 45, 46, 47, 48, 49, 50, 51, 52, 53, 54, 55, 56, 57, 58, 59, 60, 61, 62, 63, 147, 148, 149, 150, 151, 152, 153, 154] (by decide +kernel) (by decide +kernel)
set_option maxRecDepth 20000 in
theorem gX7_perform_X6_faultOf : GoodIn wsX7_perform (wsV RX7 269 RX6 yX6_faultOf wsX6_faultOf) := goodIn_app (goodIn_of _ (by decide +kernel)) ggX7_perform_X6_faultOf
set_option maxRecDepth 20000 in
theorem ggX7_perform_X7_refuse : GoodIn wsX7_perform wsX7_refuse := goodIn_ca (goodIn_ca (goodIn_ca (goodIn_r _ [66, 67, 68, 69, 70, 71, 72] (by decide +kernel) (by decide +kernel)) (goodIn_sub (fun _ h => List.mem_cons_of_mem _ (List.mem_append_left _ (List.mem_append_left _ (List.mem_append_right _ h)))) (by decide +kernel))) (goodIn_sub (fun _ h => List.mem_cons_of_mem _ (List.mem_append_left _ (List.mem_append_right _ h))) (by decide +kernel))) (goodIn_sub (fun _ h => List.mem_cons_of_mem _ (List.mem_append_right _ h)) (by decide +kernel))
set_option maxRecDepth 20000 in
theorem gX7_perform_X7_refuse : GoodIn wsX7_perform (va_wsS RX7 79 yX7_refuse wsX7_refuse) := goodIn_app (goodIn_of _ (by decide +kernel)) ggX7_perform_X7_refuse
set_option maxRecDepth 20000 in
theorem ggX7_perform_X5_keep : GoodIn wsX7_perform wsX5_keep := goodIn_r _ [77, 78, 79, 80, 81, 82, 83, 84, 85, 86, 76, 87, 88, 89, 90, 91, 7, 92, 10, 93, 45, 94, 11, 95, 96, 97, 98, 99, 49, 100, 51, 101, 47, 48, 50, 155, 156, 157, 147, 148, 149, 150, 151, 152, 153, 154] (by decide +kernel) (by decide +kernel)
set_option maxRecDepth 20000 in
theorem gX7_perform_X5_keep : GoodIn wsX7_perform (wsV RX7 210 RX5 yX5_keep wsX5_keep) := goodIn_app (goodIn_of _ (by decide +kernel)) ggX7_perform_X5_keep
set_option maxRecDepth 20000 in
theorem ggX7_perform_X6_carryOut : GoodIn wsX7_perform wsX6_carryOut := goodIn_r _ [105, 9, 45, 12, 13, 14, 15, 16, 17, 18, 106, 107, 108, 7, 109, 93, 10, 110, 111, 112, 49, 113, 51, 114, 115, 116, 117, 46, 47, 48, 50, 118, 119, 120, 121, 94, 52, 53, 54, 55, 41, 42, 43, 44, 29, 30, 31, 32, 122, 123, 124, 125, 126, 20, 127, 128, 129, 130, 131, 132, 133, 134, 135, 95, 11, 96, 136, 137, 138, 139, 147, 148, 149, 150, 151, 152, 153, 154] (by decide +kernel) (by decide +kernel)
set_option maxRecDepth 20000 in
theorem gX7_perform_X6_carryOut : GoodIn wsX7_perform (wsV RX7 272 RX6 yX6_carryOut wsX6_carryOut) := goodIn_app (goodIn_of _ (by decide +kernel)) ggX7_perform_X6_carryOut
theorem dX7_perform_0 : decode cX7_perform 0 = .ok (.aload_n 0, 1) := by decide +kernel
theorem dX7_perform_1 : decode cX7_perform 1 = .ok (.getfield 10, 3) := by decide +kernel
theorem dX7_perform_4 : decode cX7_perform 4 = .ok (.aload_n 1, 1) := by decide +kernel
theorem dX7_perform_5 : decode cX7_perform 5 = .ok (.iload_n 2, 1) := by decide +kernel
theorem dX7_perform_6 : decode cX7_perform 6 = .ok (.iload_n 3, 1) := by decide +kernel
theorem dX7_perform_7 : decode cX7_perform 7 = .ok (.invokevirtual 269, 3) := by decide +kernel
theorem dX7_perform_10 : decode cX7_perform 10 = .ok (.invokestatic 79, 3) := by decide +kernel
theorem dX7_perform_13 : decode cX7_perform 13 = .ok (.aload_n 0, 1) := by decide +kernel
theorem dX7_perform_14 : decode cX7_perform 14 = .ok (.getfield 36, 3) := by decide +kernel
theorem dX7_perform_17 : decode cX7_perform 17 = .ok (.aload_n 0, 1) := by decide +kernel
theorem dX7_perform_18 : decode cX7_perform 18 = .ok (.getfield 10, 3) := by decide +kernel
theorem dX7_perform_21 : decode cX7_perform 21 = .ok (.invokevirtual 210, 3) := by decide +kernel
theorem dX7_perform_24 : decode cX7_perform 24 = .ok (.aload_n 0, 1) := by decide +kernel
theorem dX7_perform_25 : decode cX7_perform 25 = .ok (.iconst 1, 1) := by decide +kernel
theorem dX7_perform_26 : decode cX7_perform 26 = .ok (.putfield 23, 3) := by decide +kernel
theorem dX7_perform_29 : decode cX7_perform 29 = .ok (.aload_n 0, 1) := by decide +kernel
theorem dX7_perform_30 : decode cX7_perform 30 = .ok (.getfield 10, 3) := by decide +kernel
theorem dX7_perform_33 : decode cX7_perform 33 = .ok (.aload_n 1, 1) := by decide +kernel
theorem dX7_perform_34 : decode cX7_perform 34 = .ok (.iload_n 2, 1) := by decide +kernel
theorem dX7_perform_35 : decode cX7_perform 35 = .ok (.iload_n 3, 1) := by decide +kernel
theorem dX7_perform_36 : decode cX7_perform 36 = .ok (.invokevirtual 272, 3) := by decide +kernel
theorem dX7_perform_39 : decode cX7_perform 39 = .ok (.ireturn, 1) := by decide +kernel
set_option maxRecDepth 20000 in
theorem ggX7_measured_X3_measure : GoodIn wsX7_measured wsX3_measure := goodIn_r _ [8, 9, 10, 11, 12, 13, 14, 15, 16, 17, 18, 19, 20, 21, 22, 23, 24, 25, 26, 27, 28, 29, 30, 31, 32, 33, 34, 35, 36, 37, 38, 39, 40, 7, 41, 42, 43, 44, 45, 46, 47, 48, 49, 50, 51, 52, 53, 54, 55, 56, 57, 58, 59, 60, 61, 62, 63, 64, 65, 66, 67, 68, 69, 70, 71, 72, 73, 74, 75, 76, 77, 78, 79, 80, 81, 82, 83, 84, 85, 86, 87, 88, 89, 90, 91, 92, 93, 94, 95, 96, 97, 98, 99, 100, 101, 102, 103, 104, 105, 106, 107, 108, 109, 110, 111, 112, 113, 114, 115, 123, 124, 125, 126, 127, 128, 129, 130, 131, 132, 133, 134, 135, 136, 137, 138, 139, 140, 141, 142, 143] (by decide +kernel) (by decide +kernel)
set_option maxRecDepth 20000 in
theorem gX7_measured_X3_measure : GoodIn wsX7_measured (wsV RX7 195 RX3 yX3_measure wsX3_measure) := goodIn_app (goodIn_of _ (by decide +kernel)) ggX7_measured_X3_measure
theorem dX7_measured_0 : decode cX7_measured 0 = .ok (.aload_n 0, 1) := by decide +kernel
theorem dX7_measured_1 : decode cX7_measured 1 = .ok (.getfield 23, 3) := by decide +kernel
theorem dX7_measured_4 : decode cX7_measured 4 = .ok (.ifCond .eq 19, 3) := by decide +kernel
theorem dX7_measured_7 : decode cX7_measured 7 = .ok (.aload_n 0, 1) := by decide +kernel
theorem dX7_measured_8 : decode cX7_measured 8 = .ok (.getfield 19, 3) := by decide +kernel
theorem dX7_measured_11 : decode cX7_measured 11 = .ok (.aload_n 0, 1) := by decide +kernel
theorem dX7_measured_12 : decode cX7_measured 12 = .ok (.getfield 10, 3) := by decide +kernel
theorem dX7_measured_15 : decode cX7_measured 15 = .ok (.invokevirtual 195, 3) := by decide +kernel
theorem dX7_measured_18 : decode cX7_measured 18 = .ok (.aload_n 0, 1) := by decide +kernel
theorem dX7_measured_19 : decode cX7_measured 19 = .ok (.iconst 0, 1) := by decide +kernel
theorem dX7_measured_20 : decode cX7_measured 20 = .ok (.putfield 23, 3) := by decide +kernel
theorem dX7_measured_23 : decode cX7_measured 23 = .ok (.aload_n 0, 1) := by decide +kernel
theorem dX7_measured_24 : decode cX7_measured 24 = .ok (.getfield 19, 3) := by decide +kernel
theorem dX7_measured_27 : decode cX7_measured 27 = .ok (.areturn, 1) := by decide +kernel
theorem dJx29ce0_ordinal_8abf5_0 : decode cJx29ce0_ordinal_8abf5 0 = .ok (.aload_n 0, 1) := by decide +kernel
theorem dJx29ce0_ordinal_8abf5_1 : decode cJx29ce0_ordinal_8abf5 1 = .ok (.getfield 7, 3) := by decide +kernel
theorem dJx29ce0_ordinal_8abf5_4 : decode cJx29ce0_ordinal_8abf5 4 = .ok (.ireturn, 1) := by decide +kernel
theorem dJ6_bitCount_0f7a4_0 : decode cJ6_bitCount_0f7a4 0 = .ok (.iload_n 0, 1) := by decide +kernel
theorem dJ6_bitCount_0f7a4_1 : decode cJ6_bitCount_0f7a4 1 = .ok (.iload_n 0, 1) := by decide +kernel
theorem dJ6_bitCount_0f7a4_2 : decode cJ6_bitCount_0f7a4 2 = .ok (.iconst 1, 1) := by decide +kernel
theorem dJ6_bitCount_0f7a4_3 : decode cJ6_bitCount_0f7a4 3 = .ok (.iushr, 1) := by decide +kernel
theorem dJ6_bitCount_0f7a4_4 : decode cJ6_bitCount_0f7a4 4 = .ok (.ldc_w 265, 3) := by decide +kernel
theorem dJ6_bitCount_0f7a4_7 : decode cJ6_bitCount_0f7a4 7 = .ok (.iand, 1) := by decide +kernel
theorem dJ6_bitCount_0f7a4_8 : decode cJ6_bitCount_0f7a4 8 = .ok (.isub, 1) := by decide +kernel
theorem dJ6_bitCount_0f7a4_9 : decode cJ6_bitCount_0f7a4 9 = .ok (.istore_n 0, 1) := by decide +kernel
theorem dJ6_bitCount_0f7a4_10 : decode cJ6_bitCount_0f7a4 10 = .ok (.iload_n 0, 1) := by decide +kernel
theorem dJ6_bitCount_0f7a4_11 : decode cJ6_bitCount_0f7a4 11 = .ok (.ldc_w 266, 3) := by decide +kernel
theorem dJ6_bitCount_0f7a4_14 : decode cJ6_bitCount_0f7a4 14 = .ok (.iand, 1) := by decide +kernel
theorem dJ6_bitCount_0f7a4_15 : decode cJ6_bitCount_0f7a4 15 = .ok (.iload_n 0, 1) := by decide +kernel
theorem dJ6_bitCount_0f7a4_16 : decode cJ6_bitCount_0f7a4 16 = .ok (.iconst 2, 1) := by decide +kernel
theorem dJ6_bitCount_0f7a4_17 : decode cJ6_bitCount_0f7a4 17 = .ok (.iushr, 1) := by decide +kernel
theorem dJ6_bitCount_0f7a4_18 : decode cJ6_bitCount_0f7a4 18 = .ok (.ldc_w 266, 3) := by decide +kernel
theorem dJ6_bitCount_0f7a4_21 : decode cJ6_bitCount_0f7a4 21 = .ok (.iand, 1) := by decide +kernel
theorem dJ6_bitCount_0f7a4_22 : decode cJ6_bitCount_0f7a4 22 = .ok (.iadd, 1) := by decide +kernel
theorem dJ6_bitCount_0f7a4_23 : decode cJ6_bitCount_0f7a4 23 = .ok (.istore_n 0, 1) := by decide +kernel
theorem dJ6_bitCount_0f7a4_24 : decode cJ6_bitCount_0f7a4 24 = .ok (.iload_n 0, 1) := by decide +kernel
theorem dJ6_bitCount_0f7a4_25 : decode cJ6_bitCount_0f7a4 25 = .ok (.iload_n 0, 1) := by decide +kernel
theorem dJ6_bitCount_0f7a4_26 : decode cJ6_bitCount_0f7a4 26 = .ok (.iconst 4, 1) := by decide +kernel
theorem dJ6_bitCount_0f7a4_27 : decode cJ6_bitCount_0f7a4 27 = .ok (.iushr, 1) := by decide +kernel
theorem dJ6_bitCount_0f7a4_28 : decode cJ6_bitCount_0f7a4 28 = .ok (.iadd, 1) := by decide +kernel
theorem dJ6_bitCount_0f7a4_29 : decode cJ6_bitCount_0f7a4 29 = .ok (.ldc_w 267, 3) := by decide +kernel
theorem dJ6_bitCount_0f7a4_32 : decode cJ6_bitCount_0f7a4 32 = .ok (.iand, 1) := by decide +kernel
theorem dJ6_bitCount_0f7a4_33 : decode cJ6_bitCount_0f7a4 33 = .ok (.istore_n 0, 1) := by decide +kernel
theorem dJ6_bitCount_0f7a4_34 : decode cJ6_bitCount_0f7a4 34 = .ok (.iload_n 0, 1) := by decide +kernel
theorem dJ6_bitCount_0f7a4_35 : decode cJ6_bitCount_0f7a4 35 = .ok (.iload_n 0, 1) := by decide +kernel
theorem dJ6_bitCount_0f7a4_36 : decode cJ6_bitCount_0f7a4 36 = .ok (.bipush 8, 2) := by decide +kernel
theorem dJ6_bitCount_0f7a4_38 : decode cJ6_bitCount_0f7a4 38 = .ok (.iushr, 1) := by decide +kernel
theorem dJ6_bitCount_0f7a4_39 : decode cJ6_bitCount_0f7a4 39 = .ok (.iadd, 1) := by decide +kernel
theorem dJ6_bitCount_0f7a4_40 : decode cJ6_bitCount_0f7a4 40 = .ok (.istore_n 0, 1) := by decide +kernel
theorem dJ6_bitCount_0f7a4_41 : decode cJ6_bitCount_0f7a4 41 = .ok (.iload_n 0, 1) := by decide +kernel
theorem dJ6_bitCount_0f7a4_42 : decode cJ6_bitCount_0f7a4 42 = .ok (.iload_n 0, 1) := by decide +kernel
theorem dJ6_bitCount_0f7a4_43 : decode cJ6_bitCount_0f7a4 43 = .ok (.bipush 16, 2) := by decide +kernel
theorem dJ6_bitCount_0f7a4_45 : decode cJ6_bitCount_0f7a4 45 = .ok (.iushr, 1) := by decide +kernel
theorem dJ6_bitCount_0f7a4_46 : decode cJ6_bitCount_0f7a4 46 = .ok (.iadd, 1) := by decide +kernel
theorem dJ6_bitCount_0f7a4_47 : decode cJ6_bitCount_0f7a4 47 = .ok (.istore_n 0, 1) := by decide +kernel
theorem dJ6_bitCount_0f7a4_48 : decode cJ6_bitCount_0f7a4 48 = .ok (.iload_n 0, 1) := by decide +kernel
theorem dJ6_bitCount_0f7a4_49 : decode cJ6_bitCount_0f7a4 49 = .ok (.bipush 63, 2) := by decide +kernel
theorem dJ6_bitCount_0f7a4_51 : decode cJ6_bitCount_0f7a4 51 = .ok (.iand, 1) := by decide +kernel
theorem dJ6_bitCount_0f7a4_52 : decode cJ6_bitCount_0f7a4 52 = .ok (.ireturn, 1) := by decide +kernel
theorem dJ9_min_7cf53_0 : decode cJ9_min_7cf53 0 = .ok (.iload_n 0, 1) := by decide +kernel
theorem dJ9_min_7cf53_1 : decode cJ9_min_7cf53 1 = .ok (.iload_n 1, 1) := by decide +kernel
theorem dJ9_min_7cf53_2 : decode cJ9_min_7cf53 2 = .ok (.if_icmp .gt 7, 3) := by decide +kernel
theorem dJ9_min_7cf53_5 : decode cJ9_min_7cf53 5 = .ok (.iload_n 0, 1) := by decide +kernel
theorem dJ9_min_7cf53_6 : decode cJ9_min_7cf53 6 = .ok (.goto 4, 3) := by decide +kernel
theorem dJ9_min_7cf53_9 : decode cJ9_min_7cf53 9 = .ok (.iload_n 1, 1) := by decide +kernel
theorem dJ9_min_7cf53_10 : decode cJ9_min_7cf53 10 = .ok (.ireturn, 1) := by decide +kernel
