theorem dX8_init_0 : decode cX8_init 0 = .ok (.aload_n 0, 1) := by decide +kernel
theorem dX8_init_1 : decode cX8_init 1 = .ok (.invokespecial 1, 3) := by decide +kernel
theorem dX8_init_4 : decode cX8_init 4 = .ok (.aload_n 0, 1) := by decide +kernel
theorem dX8_init_5 : decode cX8_init 5 = .ok (.bipush 27, 2) := by decide +kernel
theorem dX8_init_7 : decode cX8_init 7 = .ok (.newarray .int, 2) := by decide +kernel
theorem dX8_init_9 : decode cX8_init 9 = .ok (.putfield 7, 3) := by decide +kernel
theorem dX8_init_12 : decode cX8_init 12 = .ok (.aload_n 0, 1) := by decide +kernel
theorem dX8_init_13 : decode cX8_init 13 = .ok (.bipush 108, 2) := by decide +kernel
theorem dX8_init_15 : decode cX8_init 15 = .ok (.newarray .int, 2) := by decide +kernel
theorem dX8_init_17 : decode cX8_init 17 = .ok (.putfield 13, 3) := by decide +kernel
theorem dX8_init_20 : decode cX8_init 20 = .ok (.aload_n 0, 1) := by decide +kernel
theorem dX8_init_21 : decode cX8_init 21 = .ok (.sipush 150, 3) := by decide +kernel
theorem dX8_init_24 : decode cX8_init 24 = .ok (.newarray .int, 2) := by decide +kernel
theorem dX8_init_26 : decode cX8_init 26 = .ok (.putfield 16, 3) := by decide +kernel
theorem dX8_init_29 : decode cX8_init 29 = .ok (.aload_n 0, 1) := by decide +kernel
theorem dX8_init_30 : decode cX8_init 30 = .ok (.sipush 256, 3) := by decide +kernel
theorem dX8_init_33 : decode cX8_init 33 = .ok (.newarray .boolean, 2) := by decide +kernel
theorem dX8_init_35 : decode cX8_init 35 = .ok (.putfield 19, 3) := by decide +kernel
theorem dX8_init_38 : decode cX8_init 38 = .ok (.aload_n 0, 1) := by decide +kernel
theorem dX8_init_39 : decode cX8_init 39 = .ok (.bipush 8, 2) := by decide +kernel
theorem dX8_init_41 : decode cX8_init 41 = .ok (.newarray .int, 2) := by decide +kernel
theorem dX8_init_43 : decode cX8_init 43 = .ok (.putfield 23, 3) := by decide +kernel
theorem dX8_init_46 : decode cX8_init 46 = .ok (.aload_n 0, 1) := by decide +kernel
theorem dX8_init_47 : decode cX8_init 47 = .ok (.bipush 8, 2) := by decide +kernel
theorem dX8_init_49 : decode cX8_init 49 = .ok (.newarray .int, 2) := by decide +kernel
theorem dX8_init_51 : decode cX8_init 51 = .ok (.putfield 26, 3) := by decide +kernel
theorem dX8_init_54 : decode cX8_init 54 = .ok (.aload_n 0, 1) := by decide +kernel
theorem dX8_init_55 : decode cX8_init 55 = .ok (.iconst 2, 1) := by decide +kernel
theorem dX8_init_56 : decode cX8_init 56 = .ok (.newarray .int, 2) := by decide +kernel
theorem dX8_init_58 : decode cX8_init 58 = .ok (.putfield 29, 3) := by decide +kernel
theorem dX8_init_61 : decode cX8_init 61 = .ok (.aload_n 0, 1) := by decide +kernel
theorem dX8_init_62 : decode cX8_init 62 = .ok (.getfield 7, 3) := by decide +kernel
theorem dX8_init_65 : decode cX8_init 65 = .ok (.iconst 1, 1) := by decide +kernel
theorem dX8_init_66 : decode cX8_init 66 = .ok (.iconst 1, 1) := by decide +kernel
theorem dX8_init_67 : decode cX8_init 67 = .ok (.iastore, 1) := by decide +kernel
theorem dX8_init_68 : decode cX8_init 68 = .ok (.return_, 1) := by decide +kernel
theorem dX8_thrown_0 : decode cX8_thrown 0 = .ok (.aload_n 0, 1) := by decide +kernel
theorem dX8_thrown_1 : decode cX8_thrown 1 = .ok (.getfield 32, 3) := by decide +kernel
theorem dX8_thrown_4 : decode cX8_thrown 4 = .ok (.ireturn, 1) := by decide +kernel
theorem dX8_in_0 : decode cX8_in 0 = .ok (.iload_n 0, 1) := by decide +kernel
theorem dX8_in_1 : decode cX8_in 1 = .ok (.iload_n 1, 1) := by decide +kernel
theorem dX8_in_2 : decode cX8_in 2 = .ok (.if_icmp .lt 12, 3) := by decide +kernel
theorem dX8_in_5 : decode cX8_in 5 = .ok (.iload_n 0, 1) := by decide +kernel
theorem dX8_in_6 : decode cX8_in 6 = .ok (.iload_n 2, 1) := by decide +kernel
theorem dX8_in_7 : decode cX8_in 7 = .ok (.if_icmp .gt 7, 3) := by decide +kernel
theorem dX8_in_10 : decode cX8_in 10 = .ok (.iconst 1, 1) := by decide +kernel
theorem dX8_in_11 : decode cX8_in 11 = .ok (.goto 4, 3) := by decide +kernel
theorem dX8_in_14 : decode cX8_in 14 = .ok (.iconst 0, 1) := by decide +kernel
theorem dX8_in_15 : decode cX8_in 15 = .ok (.ireturn, 1) := by decide +kernel
theorem dX8_throwsAt_0 : decode cX8_throwsAt 0 = .ok (.aload_n 0, 1) := by decide +kernel
theorem dX8_throwsAt_1 : decode cX8_throwsAt 1 = .ok (.iload_n 1, 1) := by decide +kernel
theorem dX8_throwsAt_2 : decode cX8_throwsAt 2 = .ok (.putfield 32, 3) := by decide +kernel
theorem dX8_throwsAt_5 : decode cX8_throwsAt 5 = .ok (.iload_n 1, 1) := by decide +kernel
theorem dX8_throwsAt_6 : decode cX8_throwsAt 6 = .ok (.ifCond .le 7, 3) := by decide +kernel
theorem dX8_throwsAt_9 : decode cX8_throwsAt 9 = .ok (.iconst 1, 1) := by decide +kernel
theorem dX8_throwsAt_10 : decode cX8_throwsAt 10 = .ok (.goto 4, 3) := by decide +kernel
theorem dX8_throwsAt_13 : decode cX8_throwsAt 13 = .ok (.iconst 0, 1) := by decide +kernel
theorem dX8_throwsAt_14 : decode cX8_throwsAt 14 = .ok (.ireturn, 1) := by decide +kernel
theorem dX8_saves_0 : decode cX8_saves 0 = .ok (.aload_n 0, 1) := by decide +kernel
theorem dX8_saves_1 : decode cX8_saves 1 = .ok (.getfield 36, 3) := by decide +kernel
theorem dX8_saves_4 : decode cX8_saves 4 = .ok (.ifCond .eq 4, 3) := by decide +kernel
theorem dX8_saves_7 : decode cX8_saves 7 = .ok (.return_, 1) := by decide +kernel
theorem dX8_saves_8 : decode cX8_saves 8 = .ok (.aload_n 0, 1) := by decide +kernel
theorem dX8_saves_9 : decode cX8_saves 9 = .ok (.getfield 40, 3) := by decide +kernel
theorem dX8_saves_12 : decode cX8_saves 12 = .ok (.iconst 4, 1) := by decide +kernel
theorem dX8_saves_13 : decode cX8_saves 13 = .ok (.if_icmp .ne 42, 3) := by decide +kernel
theorem dX8_saves_16 : decode cX8_saves 16 = .ok (.iconst 0, 1) := by decide +kernel
theorem dX8_saves_17 : decode cX8_saves 17 = .ok (.istore_n 1, 1) := by decide +kernel
theorem dX8_saves_18 : decode cX8_saves 18 = .ok (.iload_n 1, 1) := by decide +kernel
theorem dX8_saves_19 : decode cX8_saves 19 = .ok (.bipush 81, 2) := by decide +kernel
theorem dX8_saves_21 : decode cX8_saves 21 = .ok (.if_icmp .ge 24, 3) := by decide +kernel
theorem dX8_saves_24 : decode cX8_saves 24 = .ok (.aload_n 0, 1) := by decide +kernel
theorem dX8_saves_25 : decode cX8_saves 25 = .ok (.getfield 13, 3) := by decide +kernel
theorem dX8_saves_28 : decode cX8_saves 28 = .ok (.iload_n 1, 1) := by decide +kernel
theorem dX8_saves_29 : decode cX8_saves 29 = .ok (.aload_n 0, 1) := by decide +kernel
theorem dX8_saves_30 : decode cX8_saves 30 = .ok (.getfield 13, 3) := by decide +kernel
theorem dX8_saves_33 : decode cX8_saves 33 = .ok (.iload_n 1, 1) := by decide +kernel
theorem dX8_saves_34 : decode cX8_saves 34 = .ok (.bipush 27, 2) := by decide +kernel
theorem dX8_saves_36 : decode cX8_saves 36 = .ok (.iadd, 1) := by decide +kernel
theorem dX8_saves_37 : decode cX8_saves 37 = .ok (.iaload, 1) := by decide +kernel
theorem dX8_saves_38 : decode cX8_saves 38 = .ok (.iastore, 1) := by decide +kernel
theorem dX8_saves_39 : decode cX8_saves 39 = .ok (.iinc 1 1, 3) := by decide +kernel
theorem dX8_saves_42 : decode cX8_saves 42 = .ok (.goto (-24), 3) := by decide +kernel
theorem dX8_saves_45 : decode cX8_saves 45 = .ok (.aload_n 0, 1) := by decide +kernel
theorem dX8_saves_46 : decode cX8_saves 46 = .ok (.dup, 1) := by decide +kernel
theorem dX8_saves_47 : decode cX8_saves 47 = .ok (.getfield 40, 3) := by decide +kernel
theorem dX8_saves_50 : decode cX8_saves 50 = .ok (.iconst 1, 1) := by decide +kernel
theorem dX8_saves_51 : decode cX8_saves 51 = .ok (.isub, 1) := by decide +kernel
theorem dX8_saves_52 : decode cX8_saves 52 = .ok (.putfield 40, 3) := by decide +kernel
theorem dX8_saves_55 : decode cX8_saves 55 = .ok (.iconst 0, 1) := by decide +kernel
theorem dX8_saves_56 : decode cX8_saves 56 = .ok (.istore_n 1, 1) := by decide +kernel
theorem dX8_saves_57 : decode cX8_saves 57 = .ok (.iload_n 1, 1) := by decide +kernel
theorem dX8_saves_58 : decode cX8_saves 58 = .ok (.bipush 27, 2) := by decide +kernel
theorem dX8_saves_60 : decode cX8_saves 60 = .ok (.if_icmp .ge 29, 3) := by decide +kernel
theorem dX8_saves_63 : decode cX8_saves 63 = .ok (.aload_n 0, 1) := by decide +kernel
theorem dX8_saves_64 : decode cX8_saves 64 = .ok (.getfield 13, 3) := by decide +kernel
theorem dX8_saves_67 : decode cX8_saves 67 = .ok (.bipush 27, 2) := by decide +kernel
theorem dX8_saves_69 : decode cX8_saves 69 = .ok (.aload_n 0, 1) := by decide +kernel
theorem dX8_saves_70 : decode cX8_saves 70 = .ok (.getfield 40, 3) := by decide +kernel
theorem dX8_saves_73 : decode cX8_saves 73 = .ok (.imul, 1) := by decide +kernel
theorem dX8_saves_74 : decode cX8_saves 74 = .ok (.iload_n 1, 1) := by decide +kernel
theorem dX8_saves_75 : decode cX8_saves 75 = .ok (.iadd, 1) := by decide +kernel
theorem dX8_saves_76 : decode cX8_saves 76 = .ok (.aload_n 0, 1) := by decide +kernel
theorem dX8_saves_77 : decode cX8_saves 77 = .ok (.getfield 7, 3) := by decide +kernel
theorem dX8_saves_80 : decode cX8_saves 80 = .ok (.iload_n 1, 1) := by decide +kernel
theorem dX8_saves_81 : decode cX8_saves 81 = .ok (.iaload, 1) := by decide +kernel
theorem dX8_saves_82 : decode cX8_saves 82 = .ok (.iastore, 1) := by decide +kernel
theorem dX8_saves_83 : decode cX8_saves 83 = .ok (.iinc 1 1, 3) := by decide +kernel
theorem dX8_saves_86 : decode cX8_saves 86 = .ok (.goto (-29), 3) := by decide +kernel
theorem dX8_saves_89 : decode cX8_saves 89 = .ok (.aload_n 0, 1) := by decide +kernel
theorem dX8_saves_90 : decode cX8_saves 90 = .ok (.dup, 1) := by decide +kernel
theorem dX8_saves_91 : decode cX8_saves 91 = .ok (.getfield 40, 3) := by decide +kernel
theorem dX8_saves_94 : decode cX8_saves 94 = .ok (.iconst 1, 1) := by decide +kernel
theorem dX8_saves_95 : decode cX8_saves 95 = .ok (.iadd, 1) := by decide +kernel
theorem dX8_saves_96 : decode cX8_saves 96 = .ok (.putfield 40, 3) := by decide +kernel
theorem dX8_saves_99 : decode cX8_saves 99 = .ok (.return_, 1) := by decide +kernel
theorem dX8_isMember_0 : decode cX8_isMember 0 = .ok (.iload_n 1, 1) := by decide +kernel
theorem dX8_isMember_1 : decode cX8_isMember 1 = .ok (.ifCond .lt 17, 3) := by decide +kernel
theorem dX8_isMember_4 : decode cX8_isMember 4 = .ok (.iload_n 1, 1) := by decide +kernel
theorem dX8_isMember_5 : decode cX8_isMember 5 = .ok (.aload_n 0, 1) := by decide +kernel
theorem dX8_isMember_6 : decode cX8_isMember 6 = .ok (.getfield 7, 3) := by decide +kernel
theorem dX8_isMember_9 : decode cX8_isMember 9 = .ok (.iconst 0, 1) := by decide +kernel
theorem dX8_isMember_10 : decode cX8_isMember 10 = .ok (.iaload, 1) := by decide +kernel
theorem dX8_isMember_11 : decode cX8_isMember 11 = .ok (.if_icmp .ge 7, 3) := by decide +kernel
theorem dX8_isMember_14 : decode cX8_isMember 14 = .ok (.iconst 1, 1) := by decide +kernel
theorem dX8_isMember_15 : decode cX8_isMember 15 = .ok (.goto 4, 3) := by decide +kernel
theorem dX8_isMember_18 : decode cX8_isMember 18 = .ok (.iconst 0, 1) := by decide +kernel
theorem dX8_isMember_19 : decode cX8_isMember 19 = .ok (.ireturn, 1) := by decide +kernel
set_option maxRecDepth 20000 in
theorem ggX8_isPlayer_X8_isMember : GoodIn wsX8_isPlayer wsX8_isMember := goodIn_r _ [6, 1, 7, 8, 9, 10, 11, 12, 13, 14, 15, 16, 17, 18, 19, 20] (by decide +kernel) (by decide +kernel)
set_option maxRecDepth 20000 in
theorem gX8_isPlayer_X8_isMember : GoodIn wsX8_isPlayer (wsV RX8 43 RX8 yX8_isMember wsX8_isMember) := goodIn_app (goodIn_of _ (by decide +kernel)) ggX8_isPlayer_X8_isMember
theorem dX8_isPlayer_0 : decode cX8_isPlayer 0 = .ok (.aload_n 0, 1) := by decide +kernel
theorem dX8_isPlayer_1 : decode cX8_isPlayer 1 = .ok (.iload_n 1, 1) := by decide +kernel
theorem dX8_isPlayer_2 : decode cX8_isPlayer 2 = .ok (.invokevirtual 43, 3) := by decide +kernel
theorem dX8_isPlayer_5 : decode cX8_isPlayer 5 = .ok (.ifCond .eq 20, 3) := by decide +kernel
theorem dX8_isPlayer_8 : decode cX8_isPlayer 8 = .ok (.aload_n 0, 1) := by decide +kernel
theorem dX8_isPlayer_9 : decode cX8_isPlayer 9 = .ok (.getfield 7, 3) := by decide +kernel
theorem dX8_isPlayer_12 : decode cX8_isPlayer 12 = .ok (.bipush 11, 2) := by decide +kernel
theorem dX8_isPlayer_14 : decode cX8_isPlayer 14 = .ok (.iload_n 1, 1) := by decide +kernel
theorem dX8_isPlayer_15 : decode cX8_isPlayer 15 = .ok (.iadd, 1) := by decide +kernel
theorem dX8_isPlayer_16 : decode cX8_isPlayer 16 = .ok (.iaload, 1) := by decide +kernel
theorem dX8_isPlayer_17 : decode cX8_isPlayer 17 = .ok (.iconst (-1), 1) := by decide +kernel
theorem dX8_isPlayer_18 : decode cX8_isPlayer 18 = .ok (.if_icmp .ne 7, 3) := by decide +kernel
theorem dX8_isPlayer_21 : decode cX8_isPlayer 21 = .ok (.iconst 1, 1) := by decide +kernel
theorem dX8_isPlayer_22 : decode cX8_isPlayer 22 = .ok (.goto 4, 3) := by decide +kernel
theorem dX8_isPlayer_25 : decode cX8_isPlayer 25 = .ok (.iconst 0, 1) := by decide +kernel
theorem dX8_isPlayer_26 : decode cX8_isPlayer 26 = .ok (.ireturn, 1) := by decide +kernel
set_option maxRecDepth 20000 in
theorem ggX8_players_X8_isPlayer : GoodIn wsX8_players wsX8_isPlayer := goodIn_r _ [6, 1, 7, 8, 9, 5, 10, 11, 12, 13, 14, 15, 16, 17, 18, 19, 20, 21, 22, 23, 24] (by decide +kernel) (by decide +kernel)
set_option maxRecDepth 20000 in
theorem gX8_players_X8_isPlayer : GoodIn wsX8_players (wsV RX8 47 RX8 yX8_isPlayer wsX8_isPlayer) := goodIn_app (goodIn_of _ (by decide +kernel)) ggX8_players_X8_isPlayer
theorem dX8_players_0 : decode cX8_players 0 = .ok (.iconst 0, 1) := by decide +kernel
theorem dX8_players_1 : decode cX8_players 1 = .ok (.istore_n 1, 1) := by decide +kernel
theorem dX8_players_2 : decode cX8_players 2 = .ok (.iconst 0, 1) := by decide +kernel
theorem dX8_players_3 : decode cX8_players 3 = .ok (.istore_n 2, 1) := by decide +kernel
theorem dX8_players_4 : decode cX8_players 4 = .ok (.iload_n 2, 1) := by decide +kernel
theorem dX8_players_5 : decode cX8_players 5 = .ok (.aload_n 0, 1) := by decide +kernel
theorem dX8_players_6 : decode cX8_players 6 = .ok (.getfield 7, 3) := by decide +kernel
theorem dX8_players_9 : decode cX8_players 9 = .ok (.iconst 0, 1) := by decide +kernel
theorem dX8_players_10 : decode cX8_players 10 = .ok (.iaload, 1) := by decide +kernel
theorem dX8_players_11 : decode cX8_players 11 = .ok (.if_icmp .ge 27, 3) := by decide +kernel
theorem dX8_players_14 : decode cX8_players 14 = .ok (.iload_n 1, 1) := by decide +kernel
theorem dX8_players_15 : decode cX8_players 15 = .ok (.aload_n 0, 1) := by decide +kernel
theorem dX8_players_16 : decode cX8_players 16 = .ok (.iload_n 2, 1) := by decide +kernel
theorem dX8_players_17 : decode cX8_players 17 = .ok (.invokevirtual 47, 3) := by decide +kernel
theorem dX8_players_20 : decode cX8_players 20 = .ok (.ifCond .eq 9, 3) := by decide +kernel
theorem dX8_players_23 : decode cX8_players 23 = .ok (.iconst 1, 1) := by decide +kernel
theorem dX8_players_24 : decode cX8_players 24 = .ok (.iload_n 2, 1) := by decide +kernel
theorem dX8_players_25 : decode cX8_players 25 = .ok (.ishl, 1) := by decide +kernel
theorem dX8_players_26 : decode cX8_players 26 = .ok (.goto 4, 3) := by decide +kernel
theorem dX8_players_29 : decode cX8_players 29 = .ok (.iconst 0, 1) := by decide +kernel
theorem dX8_players_30 : decode cX8_players 30 = .ok (.ior, 1) := by decide +kernel
theorem dX8_players_31 : decode cX8_players 31 = .ok (.istore_n 1, 1) := by decide +kernel
theorem dX8_players_32 : decode cX8_players 32 = .ok (.iinc 2 1, 3) := by decide +kernel
theorem dX8_players_35 : decode cX8_players 35 = .ok (.goto (-31), 3) := by decide +kernel
theorem dX8_players_38 : decode cX8_players 38 = .ok (.iload_n 1, 1) := by decide +kernel
theorem dX8_players_39 : decode cX8_players 39 = .ok (.ireturn, 1) := by decide +kernel
theorem dX8_ones_0 : decode cX8_ones 0 = .ok (.iconst 0, 1) := by decide +kernel
theorem dX8_ones_1 : decode cX8_ones 1 = .ok (.istore_n 1, 1) := by decide +kernel
theorem dX8_ones_2 : decode cX8_ones 2 = .ok (.iconst 0, 1) := by decide +kernel
theorem dX8_ones_3 : decode cX8_ones 3 = .ok (.istore_n 2, 1) := by decide +kernel
theorem dX8_ones_4 : decode cX8_ones 4 = .ok (.iload_n 2, 1) := by decide +kernel
theorem dX8_ones_5 : decode cX8_ones 5 = .ok (.bipush 8, 2) := by decide +kernel
theorem dX8_ones_7 : decode cX8_ones 7 = .ok (.if_icmp .ge 17, 3) := by decide +kernel
theorem dX8_ones_10 : decode cX8_ones 10 = .ok (.iload_n 1, 1) := by decide +kernel
theorem dX8_ones_11 : decode cX8_ones 11 = .ok (.iload_n 0, 1) := by decide +kernel
theorem dX8_ones_12 : decode cX8_ones 12 = .ok (.iload_n 2, 1) := by decide +kernel
theorem dX8_ones_13 : decode cX8_ones 13 = .ok (.ishr, 1) := by decide +kernel
theorem dX8_ones_14 : decode cX8_ones 14 = .ok (.iconst 1, 1) := by decide +kernel
theorem dX8_ones_15 : decode cX8_ones 15 = .ok (.iand, 1) := by decide +kernel
theorem dX8_ones_16 : decode cX8_ones 16 = .ok (.iadd, 1) := by decide +kernel
theorem dX8_ones_17 : decode cX8_ones 17 = .ok (.istore_n 1, 1) := by decide +kernel
theorem dX8_ones_18 : decode cX8_ones 18 = .ok (.iinc 2 1, 3) := by decide +kernel
theorem dX8_ones_21 : decode cX8_ones 21 = .ok (.goto (-17), 3) := by decide +kernel
theorem dX8_ones_24 : decode cX8_ones 24 = .ok (.iload_n 1, 1) := by decide +kernel
theorem dX8_ones_25 : decode cX8_ones 25 = .ok (.ireturn, 1) := by decide +kernel
theorem dX8_has_0 : decode cX8_has 0 = .ok (.iload_n 0, 1) := by decide +kernel
theorem dX8_has_1 : decode cX8_has 1 = .ok (.iload_n 1, 1) := by decide +kernel
theorem dX8_has_2 : decode cX8_has 2 = .ok (.ishr, 1) := by decide +kernel
theorem dX8_has_3 : decode cX8_has 3 = .ok (.iconst 1, 1) := by decide +kernel
theorem dX8_has_4 : decode cX8_has 4 = .ok (.iand, 1) := by decide +kernel
theorem dX8_has_5 : decode cX8_has 5 = .ok (.iconst 1, 1) := by decide +kernel
theorem dX8_has_6 : decode cX8_has 6 = .ok (.if_icmp .ne 7, 3) := by decide +kernel
theorem dX8_has_9 : decode cX8_has 9 = .ok (.iconst 1, 1) := by decide +kernel
theorem dX8_has_10 : decode cX8_has 10 = .ok (.goto 4, 3) := by decide +kernel
theorem dX8_has_13 : decode cX8_has 13 = .ok (.iconst 0, 1) := by decide +kernel
theorem dX8_has_14 : decode cX8_has 14 = .ok (.ireturn, 1) := by decide +kernel
set_option maxRecDepth 20000 in
theorem ggX8_yes_X8_has : GoodIn wsX8_yes wsX8_has := goodIn_r _ [5] (by decide +kernel) (by decide +kernel)
set_option maxRecDepth 20000 in
theorem gX8_yes_X8_has : GoodIn wsX8_yes (va_wsS RX8 50 yX8_has wsX8_has) := goodIn_app (goodIn_of _ (by decide +kernel)) ggX8_yes_X8_has
theorem dX8_yes_0 : decode cX8_yes 0 = .ok (.iconst 0, 1) := by decide +kernel
theorem dX8_yes_1 : decode cX8_yes 1 = .ok (.istore_n 2, 1) := by decide +kernel
theorem dX8_yes_2 : decode cX8_yes 2 = .ok (.iconst 0, 1) := by decide +kernel
theorem dX8_yes_3 : decode cX8_yes 3 = .ok (.istore_n 3, 1) := by decide +kernel
theorem dX8_yes_4 : decode cX8_yes 4 = .ok (.iload_n 3, 1) := by decide +kernel
theorem dX8_yes_5 : decode cX8_yes 5 = .ok (.aload_n 0, 1) := by decide +kernel
theorem dX8_yes_6 : decode cX8_yes 6 = .ok (.getfield 7, 3) := by decide +kernel
theorem dX8_yes_9 : decode cX8_yes 9 = .ok (.iconst 0, 1) := by decide +kernel
theorem dX8_yes_10 : decode cX8_yes 10 = .ok (.iaload, 1) := by decide +kernel
theorem dX8_yes_11 : decode cX8_yes 11 = .ok (.if_icmp .ge 56, 3) := by decide +kernel
theorem dX8_yes_14 : decode cX8_yes 14 = .ok (.aload_n 0, 1) := by decide +kernel
theorem dX8_yes_15 : decode cX8_yes 15 = .ok (.getfield 7, 3) := by decide +kernel
theorem dX8_yes_18 : decode cX8_yes 18 = .ok (.bipush 11, 2) := by decide +kernel
theorem dX8_yes_20 : decode cX8_yes 20 = .ok (.iload_n 3, 1) := by decide +kernel
theorem dX8_yes_21 : decode cX8_yes 21 = .ok (.iadd, 1) := by decide +kernel
theorem dX8_yes_22 : decode cX8_yes 22 = .ok (.iaload, 1) := by decide +kernel
theorem dX8_yes_23 : decode cX8_yes 23 = .ok (.iconst (-1), 1) := by decide +kernel
theorem dX8_yes_24 : decode cX8_yes 24 = .ok (.if_icmp .ne 7, 3) := by decide +kernel
theorem dX8_yes_27 : decode cX8_yes 27 = .ok (.iload_n 3, 1) := by decide +kernel
theorem dX8_yes_28 : decode cX8_yes 28 = .ok (.goto 12, 3) := by decide +kernel
theorem dX8_yes_31 : decode cX8_yes 31 = .ok (.aload_n 0, 1) := by decide +kernel
theorem dX8_yes_32 : decode cX8_yes 32 = .ok (.getfield 7, 3) := by decide +kernel
theorem dX8_yes_35 : decode cX8_yes 35 = .ok (.bipush 11, 2) := by decide +kernel
theorem dX8_yes_37 : decode cX8_yes 37 = .ok (.iload_n 3, 1) := by decide +kernel
theorem dX8_yes_38 : decode cX8_yes 38 = .ok (.iadd, 1) := by decide +kernel
theorem dX8_yes_39 : decode cX8_yes 39 = .ok (.iaload, 1) := by decide +kernel
theorem dX8_yes_40 : decode cX8_yes 40 = .ok (.istore 4, 2) := by decide +kernel
theorem dX8_yes_42 : decode cX8_yes 42 = .ok (.iload_n 2, 1) := by decide +kernel
theorem dX8_yes_43 : decode cX8_yes 43 = .ok (.iload_n 1, 1) := by decide +kernel
theorem dX8_yes_44 : decode cX8_yes 44 = .ok (.iload 4, 2) := by decide +kernel
theorem dX8_yes_46 : decode cX8_yes 46 = .ok (.invokestatic 50, 3) := by decide +kernel
theorem dX8_yes_49 : decode cX8_yes 49 = .ok (.ifCond .eq 9, 3) := by decide +kernel
theorem dX8_yes_52 : decode cX8_yes 52 = .ok (.iconst 1, 1) := by decide +kernel
theorem dX8_yes_53 : decode cX8_yes 53 = .ok (.iload_n 3, 1) := by decide +kernel
theorem dX8_yes_54 : decode cX8_yes 54 = .ok (.ishl, 1) := by decide +kernel
theorem dX8_yes_55 : decode cX8_yes 55 = .ok (.goto 4, 3) := by decide +kernel
theorem dX8_yes_58 : decode cX8_yes 58 = .ok (.iconst 0, 1) := by decide +kernel
theorem dX8_yes_59 : decode cX8_yes 59 = .ok (.ior, 1) := by decide +kernel
theorem dX8_yes_60 : decode cX8_yes 60 = .ok (.istore_n 2, 1) := by decide +kernel
theorem dX8_yes_61 : decode cX8_yes 61 = .ok (.iinc 3 1, 3) := by decide +kernel
theorem dX8_yes_64 : decode cX8_yes 64 = .ok (.goto (-60), 3) := by decide +kernel
theorem dX8_yes_67 : decode cX8_yes 67 = .ok (.iload_n 2, 1) := by decide +kernel
theorem dX8_yes_68 : decode cX8_yes 68 = .ok (.ireturn, 1) := by decide +kernel
set_option maxRecDepth 20000 in
theorem ggX8_weightOf_X8_has : GoodIn wsX8_weightOf wsX8_has := goodIn_r _ [5] (by decide +kernel) (by decide +kernel)
set_option maxRecDepth 20000 in
theorem gX8_weightOf_X8_has : GoodIn wsX8_weightOf (va_wsS RX8 50 yX8_has wsX8_has) := goodIn_app (goodIn_of _ (by decide +kernel)) ggX8_weightOf_X8_has
theorem dX8_weightOf_0 : decode cX8_weightOf 0 = .ok (.iconst 0, 1) := by decide +kernel
theorem dX8_weightOf_1 : decode cX8_weightOf 1 = .ok (.istore_n 2, 1) := by decide +kernel
theorem dX8_weightOf_2 : decode cX8_weightOf 2 = .ok (.iconst 0, 1) := by decide +kernel
theorem dX8_weightOf_3 : decode cX8_weightOf 3 = .ok (.istore_n 3, 1) := by decide +kernel
theorem dX8_weightOf_4 : decode cX8_weightOf 4 = .ok (.iload_n 3, 1) := by decide +kernel
theorem dX8_weightOf_5 : decode cX8_weightOf 5 = .ok (.aload_n 0, 1) := by decide +kernel
theorem dX8_weightOf_6 : decode cX8_weightOf 6 = .ok (.getfield 7, 3) := by decide +kernel
theorem dX8_weightOf_9 : decode cX8_weightOf 9 = .ok (.iconst 0, 1) := by decide +kernel
theorem dX8_weightOf_10 : decode cX8_weightOf 10 = .ok (.iaload, 1) := by decide +kernel
theorem dX8_weightOf_11 : decode cX8_weightOf 11 = .ok (.if_icmp .ge 32, 3) := by decide +kernel
theorem dX8_weightOf_14 : decode cX8_weightOf 14 = .ok (.iload_n 2, 1) := by decide +kernel
theorem dX8_weightOf_15 : decode cX8_weightOf 15 = .ok (.iload_n 1, 1) := by decide +kernel
theorem dX8_weightOf_16 : decode cX8_weightOf 16 = .ok (.iload_n 3, 1) := by decide +kernel
theorem dX8_weightOf_17 : decode cX8_weightOf 17 = .ok (.invokestatic 50, 3) := by decide +kernel
theorem dX8_weightOf_20 : decode cX8_weightOf 20 = .ok (.ifCond .eq 14, 3) := by decide +kernel
theorem dX8_weightOf_23 : decode cX8_weightOf 23 = .ok (.aload_n 0, 1) := by decide +kernel
theorem dX8_weightOf_24 : decode cX8_weightOf 24 = .ok (.getfield 7, 3) := by decide +kernel
theorem dX8_weightOf_27 : decode cX8_weightOf 27 = .ok (.iconst 3, 1) := by decide +kernel
theorem dX8_weightOf_28 : decode cX8_weightOf 28 = .ok (.iload_n 3, 1) := by decide +kernel
theorem dX8_weightOf_29 : decode cX8_weightOf 29 = .ok (.iadd, 1) := by decide +kernel
theorem dX8_weightOf_30 : decode cX8_weightOf 30 = .ok (.iaload, 1) := by decide +kernel
theorem dX8_weightOf_31 : decode cX8_weightOf 31 = .ok (.goto 4, 3) := by decide +kernel
theorem dX8_weightOf_34 : decode cX8_weightOf 34 = .ok (.iconst 0, 1) := by decide +kernel
theorem dX8_weightOf_35 : decode cX8_weightOf 35 = .ok (.iadd, 1) := by decide +kernel
theorem dX8_weightOf_36 : decode cX8_weightOf 36 = .ok (.istore_n 2, 1) := by decide +kernel
theorem dX8_weightOf_37 : decode cX8_weightOf 37 = .ok (.iinc 3 1, 3) := by decide +kernel
theorem dX8_weightOf_40 : decode cX8_weightOf 40 = .ok (.goto (-36), 3) := by decide +kernel
theorem dX8_weightOf_43 : decode cX8_weightOf 43 = .ok (.iload_n 2, 1) := by decide +kernel
theorem dX8_weightOf_44 : decode cX8_weightOf 44 = .ok (.ireturn, 1) := by decide +kernel
set_option maxRecDepth 20000 in
theorem ggX8_holds_X8_ones : GoodIn wsX8_holds wsX8_ones := goodIn_r _ [5] (by decide +kernel) (by decide +kernel)
set_option maxRecDepth 20000 in
theorem gX8_holds_X8_ones : GoodIn wsX8_holds (va_wsS RX8 54 yX8_ones wsX8_ones) := goodIn_app (goodIn_of _ (by decide +kernel)) ggX8_holds_X8_ones
set_option maxRecDepth 20000 in
theorem ggX8_holds_X8_has : GoodIn wsX8_holds wsX8_has := goodIn_r _ [8] (by decide +kernel) (by decide +kernel)
set_option maxRecDepth 20000 in
theorem gX8_holds_X8_has : GoodIn wsX8_holds (va_wsS RX8 50 yX8_has wsX8_has) := goodIn_app (goodIn_of _ (by decide +kernel)) ggX8_holds_X8_has
theorem dX8_holds_0 : decode cX8_holds 0 = .ok (.aload_n 0, 1) := by decide +kernel
theorem dX8_holds_1 : decode cX8_holds 1 = .ok (.getfield 7, 3) := by decide +kernel
theorem dX8_holds_4 : decode cX8_holds 4 = .ok (.bipush 23, 2) := by decide +kernel
theorem dX8_holds_6 : decode cX8_holds 6 = .ok (.iload_n 1, 1) := by decide +kernel
theorem dX8_holds_7 : decode cX8_holds 7 = .ok (.iadd, 1) := by decide +kernel
theorem dX8_holds_8 : decode cX8_holds 8 = .ok (.iaload, 1) := by decide +kernel
theorem dX8_holds_9 : decode cX8_holds 9 = .ok (.istore_n 3, 1) := by decide +kernel
theorem dX8_holds_10 : decode cX8_holds 10 = .ok (.aload_n 0, 1) := by decide +kernel
theorem dX8_holds_11 : decode cX8_holds 11 = .ok (.getfield 7, 3) := by decide +kernel
theorem dX8_holds_14 : decode cX8_holds 14 = .ok (.bipush 19, 2) := by decide +kernel
theorem dX8_holds_16 : decode cX8_holds 16 = .ok (.iload_n 1, 1) := by decide +kernel
theorem dX8_holds_17 : decode cX8_holds 17 = .ok (.iadd, 1) := by decide +kernel
theorem dX8_holds_18 : decode cX8_holds 18 = .ok (.iaload, 1) := by decide +kernel
theorem dX8_holds_19 : decode cX8_holds 19 = .ok (.ifCond .ne 19, 3) := by decide +kernel
theorem dX8_holds_22 : decode cX8_holds 22 = .ok (.iload_n 2, 1) := by decide +kernel
theorem dX8_holds_23 : decode cX8_holds 23 = .ok (.invokestatic 54, 3) := by decide +kernel
theorem dX8_holds_26 : decode cX8_holds 26 = .ok (.iload_n 3, 1) := by decide +kernel
theorem dX8_holds_27 : decode cX8_holds 27 = .ok (.if_icmp .lt 7, 3) := by decide +kernel
theorem dX8_holds_30 : decode cX8_holds 30 = .ok (.iconst 1, 1) := by decide +kernel
theorem dX8_holds_31 : decode cX8_holds 31 = .ok (.goto 39, 3) := by decide +kernel
theorem dX8_holds_34 : decode cX8_holds 34 = .ok (.iconst 0, 1) := by decide +kernel
theorem dX8_holds_35 : decode cX8_holds 35 = .ok (.goto 35, 3) := by decide +kernel
theorem dX8_holds_38 : decode cX8_holds 38 = .ok (.aload_n 0, 1) := by decide +kernel
theorem dX8_holds_39 : decode cX8_holds 39 = .ok (.getfield 7, 3) := by decide +kernel
theorem dX8_holds_42 : decode cX8_holds 42 = .ok (.bipush 19, 2) := by decide +kernel
theorem dX8_holds_44 : decode cX8_holds 44 = .ok (.iload_n 1, 1) := by decide +kernel
theorem dX8_holds_45 : decode cX8_holds 45 = .ok (.iadd, 1) := by decide +kernel
theorem dX8_holds_46 : decode cX8_holds 46 = .ok (.iaload, 1) := by decide +kernel
theorem dX8_holds_47 : decode cX8_holds 47 = .ok (.iconst 1, 1) := by decide +kernel
theorem dX8_holds_48 : decode cX8_holds 48 = .ok (.if_icmp .ne 11, 3) := by decide +kernel
theorem dX8_holds_51 : decode cX8_holds 51 = .ok (.iload_n 2, 1) := by decide +kernel
theorem dX8_holds_52 : decode cX8_holds 52 = .ok (.iload_n 3, 1) := by decide +kernel
theorem dX8_holds_53 : decode cX8_holds 53 = .ok (.invokestatic 50, 3) := by decide +kernel
theorem dX8_holds_56 : decode cX8_holds 56 = .ok (.goto 14, 3) := by decide +kernel
theorem dX8_holds_59 : decode cX8_holds 59 = .ok (.iload_n 2, 1) := by decide +kernel
theorem dX8_holds_60 : decode cX8_holds 60 = .ok (.iload_n 3, 1) := by decide +kernel
theorem dX8_holds_61 : decode cX8_holds 61 = .ok (.iand, 1) := by decide +kernel
theorem dX8_holds_62 : decode cX8_holds 62 = .ok (.ifCond .eq 7, 3) := by decide +kernel
theorem dX8_holds_65 : decode cX8_holds 65 = .ok (.iconst 1, 1) := by decide +kernel
theorem dX8_holds_66 : decode cX8_holds 66 = .ok (.goto 4, 3) := by decide +kernel
theorem dX8_holds_69 : decode cX8_holds 69 = .ok (.iconst 0, 1) := by decide +kernel
theorem dX8_holds_70 : decode cX8_holds 70 = .ok (.ireturn, 1) := by decide +kernel
set_option maxRecDepth 20000 in
theorem ggX8_why_X8_yes : GoodIn wsX8_why wsX8_yes := goodIn_r _ [6, 1, 7, 8, 5, 9, 21, 22, 23, 24, 25, 26, 27, 28, 29, 30, 31, 32, 33, 34] (by decide +kernel) (by decide +kernel)
set_option maxRecDepth 20000 in
theorem gX8_why_X8_yes : GoodIn wsX8_why (wsV RX8 58 RX8 yX8_yes wsX8_yes) := goodIn_app (goodIn_of _ (by decide +kernel)) ggX8_why_X8_yes
set_option maxRecDepth 20000 in
theorem ggX8_why_X8_weightOf : GoodIn wsX8_why wsX8_weightOf := goodIn_r _ [13, 1, 7, 8, 5, 9, 21, 22, 23, 24, 25, 26, 27, 28, 29, 30, 31, 32, 33, 34] (by decide +kernel) (by decide +kernel)
set_option maxRecDepth 20000 in
theorem gX8_why_X8_weightOf : GoodIn wsX8_why (wsV RX8 61 RX8 yX8_weightOf wsX8_weightOf) := goodIn_app (goodIn_of _ (by decide +kernel)) ggX8_why_X8_weightOf
set_option maxRecDepth 20000 in
theorem ggX8_why_X8_holds : GoodIn wsX8_why wsX8_holds := goodIn_r _ [17, 1, 18, 19, 5, 20, 7, 8, 9, 21, 22, 23, 24, 25, 26, 27, 28, 29, 30, 31, 32, 33, 34] (by decide +kernel) (by decide +kernel)
set_option maxRecDepth 20000 in
theorem gX8_why_X8_holds : GoodIn wsX8_why (wsV RX8 64 RX8 yX8_holds wsX8_holds) := goodIn_app (goodIn_of _ (by decide +kernel)) ggX8_why_X8_holds
theorem dX8_why_0 : decode cX8_why 0 = .ok (.aload_n 0, 1) := by decide +kernel
theorem dX8_why_1 : decode cX8_why 1 = .ok (.iload_n 1, 1) := by decide +kernel
theorem dX8_why_2 : decode cX8_why 2 = .ok (.invokevirtual 58, 3) := by decide +kernel
theorem dX8_why_5 : decode cX8_why 5 = .ok (.istore_n 3, 1) := by decide +kernel
theorem dX8_why_6 : decode cX8_why 6 = .ok (.aload_n 0, 1) := by decide +kernel
theorem dX8_why_7 : decode cX8_why 7 = .ok (.iload_n 3, 1) := by decide +kernel
theorem dX8_why_8 : decode cX8_why 8 = .ok (.invokevirtual 61, 3) := by decide +kernel
theorem dX8_why_11 : decode cX8_why 11 = .ok (.iload_n 2, 1) := by decide +kernel
theorem dX8_why_12 : decode cX8_why 12 = .ok (.if_icmp .ge 5, 3) := by decide +kernel
theorem dX8_why_15 : decode cX8_why 15 = .ok (.iconst 1, 1) := by decide +kernel
theorem dX8_why_16 : decode cX8_why 16 = .ok (.ireturn, 1) := by decide +kernel
theorem dX8_why_17 : decode cX8_why 17 = .ok (.iconst 0, 1) := by decide +kernel
theorem dX8_why_18 : decode cX8_why 18 = .ok (.istore 4, 2) := by decide +kernel
theorem dX8_why_20 : decode cX8_why 20 = .ok (.iload 4, 2) := by decide +kernel
theorem dX8_why_22 : decode cX8_why 22 = .ok (.aload_n 0, 1) := by decide +kernel
theorem dX8_why_23 : decode cX8_why 23 = .ok (.getfield 7, 3) := by decide +kernel
theorem dX8_why_26 : decode cX8_why 26 = .ok (.iconst 2, 1) := by decide +kernel
theorem dX8_why_27 : decode cX8_why 27 = .ok (.iaload, 1) := by decide +kernel
theorem dX8_why_28 : decode cX8_why 28 = .ok (.if_icmp .ge 24, 3) := by decide +kernel
theorem dX8_why_31 : decode cX8_why 31 = .ok (.aload_n 0, 1) := by decide +kernel
theorem dX8_why_32 : decode cX8_why 32 = .ok (.iload 4, 2) := by decide +kernel
theorem dX8_why_34 : decode cX8_why 34 = .ok (.iload_n 3, 1) := by decide +kernel
theorem dX8_why_35 : decode cX8_why 35 = .ok (.invokevirtual 64, 3) := by decide +kernel
theorem dX8_why_38 : decode cX8_why 38 = .ok (.ifCond .ne 8, 3) := by decide +kernel
theorem dX8_why_41 : decode cX8_why 41 = .ok (.iconst 2, 1) := by decide +kernel
theorem dX8_why_42 : decode cX8_why 42 = .ok (.iload 4, 2) := by decide +kernel
theorem dX8_why_44 : decode cX8_why 44 = .ok (.iadd, 1) := by decide +kernel
theorem dX8_why_45 : decode cX8_why 45 = .ok (.ireturn, 1) := by decide +kernel
theorem dX8_why_46 : decode cX8_why 46 = .ok (.iinc 4 1, 3) := by decide +kernel
theorem dX8_why_49 : decode cX8_why 49 = .ok (.goto (-29), 3) := by decide +kernel
theorem dX8_why_52 : decode cX8_why 52 = .ok (.iconst 0, 1) := by decide +kernel
theorem dX8_why_53 : decode cX8_why 53 = .ok (.ireturn, 1) := by decide +kernel
set_option maxRecDepth 20000 in
theorem ggX8_lays_X8_players : GoodIn wsX8_lays wsX8_players := goodIn_r _ [7, 8, 9, 10, 11, 6, 12, 13, 14, 15, 16, 39, 40, 41, 42, 43, 44, 45, 46, 47, 48, 49, 50, 51, 52] (by decide +kernel) (by decide +kernel)
set_option maxRecDepth 20000 in
theorem gX8_lays_X8_players : GoodIn wsX8_lays (wsV RX8 67 RX8 yX8_players wsX8_players) := goodIn_app (goodIn_of _ (by decide +kernel)) ggX8_lays_X8_players
set_option maxRecDepth 20000 in
theorem ggX8_lays_X8_why : GoodIn wsX8_lays wsX8_why := goodIn_r _ [20, 8, 21, 22, 23, 6, 24, 25, 26, 27, 28, 29, 30, 31, 32, 33, 34, 35, 36, 37, 38, 39, 40, 41, 42, 43, 44, 45, 46, 47, 48, 49, 50, 51, 52] (by decide +kernel) (by decide +kernel)
set_option maxRecDepth 20000 in
theorem gX8_lays_X8_why : GoodIn wsX8_lays (wsV RX8 74 RX8 yX8_why wsX8_why) := goodIn_app (goodIn_of _ (by decide +kernel)) ggX8_lays_X8_why
theorem dX8_lays_0 : decode cX8_lays 0 = .ok (.aload_n 0, 1) := by decide +kernel
theorem dX8_lays_1 : decode cX8_lays 1 = .ok (.aload_n 0, 1) := by decide +kernel
theorem dX8_lays_2 : decode cX8_lays 2 = .ok (.invokevirtual 67, 3) := by decide +kernel
theorem dX8_lays_5 : decode cX8_lays 5 = .ok (.putfield 71, 3) := by decide +kernel
theorem dX8_lays_8 : decode cX8_lays 8 = .ok (.iconst 0, 1) := by decide +kernel
theorem dX8_lays_9 : decode cX8_lays 9 = .ok (.istore_n 2, 1) := by decide +kernel
theorem dX8_lays_10 : decode cX8_lays 10 = .ok (.iload_n 2, 1) := by decide +kernel
theorem dX8_lays_11 : decode cX8_lays 11 = .ok (.sipush 256, 3) := by decide +kernel
theorem dX8_lays_14 : decode cX8_lays 14 = .ok (.if_icmp .ge 40, 3) := by decide +kernel
theorem dX8_lays_17 : decode cX8_lays 17 = .ok (.aload_n 0, 1) := by decide +kernel
theorem dX8_lays_18 : decode cX8_lays 18 = .ok (.getfield 19, 3) := by decide +kernel
theorem dX8_lays_21 : decode cX8_lays 21 = .ok (.iload_n 2, 1) := by decide +kernel
theorem dX8_lays_22 : decode cX8_lays 22 = .ok (.iload_n 2, 1) := by decide +kernel
theorem dX8_lays_23 : decode cX8_lays 23 = .ok (.aload_n 0, 1) := by decide +kernel
theorem dX8_lays_24 : decode cX8_lays 24 = .ok (.getfield 71, 3) := by decide +kernel
theorem dX8_lays_27 : decode cX8_lays 27 = .ok (.iconst (-1), 1) := by decide +kernel
theorem dX8_lays_28 : decode cX8_lays 28 = .ok (.ixor, 1) := by decide +kernel
theorem dX8_lays_29 : decode cX8_lays 29 = .ok (.iand, 1) := by decide +kernel
theorem dX8_lays_30 : decode cX8_lays 30 = .ok (.ifCond .ne 16, 3) := by decide +kernel
theorem dX8_lays_33 : decode cX8_lays 33 = .ok (.aload_n 0, 1) := by decide +kernel
theorem dX8_lays_34 : decode cX8_lays 34 = .ok (.iload_n 2, 1) := by decide +kernel
theorem dX8_lays_35 : decode cX8_lays 35 = .ok (.iload_n 1, 1) := by decide +kernel
theorem dX8_lays_36 : decode cX8_lays 36 = .ok (.invokevirtual 74, 3) := by decide +kernel
theorem dX8_lays_39 : decode cX8_lays 39 = .ok (.ifCond .ne 7, 3) := by decide +kernel
theorem dX8_lays_42 : decode cX8_lays 42 = .ok (.iconst 1, 1) := by decide +kernel
theorem dX8_lays_43 : decode cX8_lays 43 = .ok (.goto 4, 3) := by decide +kernel
theorem dX8_lays_46 : decode cX8_lays 46 = .ok (.iconst 0, 1) := by decide +kernel
theorem dX8_lays_47 : decode cX8_lays 47 = .ok (.bastore, 1) := by decide +kernel
theorem dX8_lays_48 : decode cX8_lays 48 = .ok (.iinc 2 1, 3) := by decide +kernel
theorem dX8_lays_51 : decode cX8_lays 51 = .ok (.goto (-41), 3) := by decide +kernel
theorem dX8_lays_54 : decode cX8_lays 54 = .ok (.return_, 1) := by decide +kernel
set_option maxRecDepth 20000 in
theorem ggX8_swings_X8_has : GoodIn wsX8_swings wsX8_has := goodIn_r _ [5] (by decide +kernel) (by decide +kernel)
set_option maxRecDepth 20000 in
theorem gX8_swings_X8_has : GoodIn wsX8_swings (va_wsS RX8 50 yX8_has wsX8_has) := goodIn_app (goodIn_of _ (by decide +kernel)) ggX8_swings_X8_has
theorem dX8_swings_0 : decode cX8_swings 0 = .ok (.iconst 0, 1) := by decide +kernel
theorem dX8_swings_1 : decode cX8_swings 1 = .ok (.istore_n 2, 1) := by decide +kernel
theorem dX8_swings_2 : decode cX8_swings 2 = .ok (.iconst 0, 1) := by decide +kernel
theorem dX8_swings_3 : decode cX8_swings 3 = .ok (.istore_n 3, 1) := by decide +kernel
theorem dX8_swings_4 : decode cX8_swings 4 = .ok (.iload_n 3, 1) := by decide +kernel
theorem dX8_swings_5 : decode cX8_swings 5 = .ok (.sipush 256, 3) := by decide +kernel
theorem dX8_swings_8 : decode cX8_swings 8 = .ok (.if_icmp .ge 49, 3) := by decide +kernel
theorem dX8_swings_11 : decode cX8_swings 11 = .ok (.iload_n 2, 1) := by decide +kernel
theorem dX8_swings_12 : decode cX8_swings 12 = .ok (.iload_n 3, 1) := by decide +kernel
theorem dX8_swings_13 : decode cX8_swings 13 = .ok (.iload_n 1, 1) := by decide +kernel
theorem dX8_swings_14 : decode cX8_swings 14 = .ok (.invokestatic 50, 3) := by decide +kernel
theorem dX8_swings_17 : decode cX8_swings 17 = .ok (.ifCond .eq 31, 3) := by decide +kernel
theorem dX8_swings_20 : decode cX8_swings 20 = .ok (.aload_n 0, 1) := by decide +kernel
theorem dX8_swings_21 : decode cX8_swings 21 = .ok (.getfield 19, 3) := by decide +kernel
theorem dX8_swings_24 : decode cX8_swings 24 = .ok (.iload_n 3, 1) := by decide +kernel
theorem dX8_swings_25 : decode cX8_swings 25 = .ok (.baload, 1) := by decide +kernel
theorem dX8_swings_26 : decode cX8_swings 26 = .ok (.ifCond .eq 22, 3) := by decide +kernel
theorem dX8_swings_29 : decode cX8_swings 29 = .ok (.aload_n 0, 1) := by decide +kernel
theorem dX8_swings_30 : decode cX8_swings 30 = .ok (.getfield 19, 3) := by decide +kernel
theorem dX8_swings_33 : decode cX8_swings 33 = .ok (.iload_n 3, 1) := by decide +kernel
theorem dX8_swings_34 : decode cX8_swings 34 = .ok (.iconst 1, 1) := by decide +kernel
theorem dX8_swings_35 : decode cX8_swings 35 = .ok (.iload_n 1, 1) := by decide +kernel
theorem dX8_swings_36 : decode cX8_swings 36 = .ok (.ishl, 1) := by decide +kernel
theorem dX8_swings_37 : decode cX8_swings 37 = .ok (.iconst (-1), 1) := by decide +kernel
theorem dX8_swings_38 : decode cX8_swings 38 = .ok (.ixor, 1) := by decide +kernel
theorem dX8_swings_39 : decode cX8_swings 39 = .ok (.iand, 1) := by decide +kernel
theorem dX8_swings_40 : decode cX8_swings 40 = .ok (.baload, 1) := by decide +kernel
theorem dX8_swings_41 : decode cX8_swings 41 = .ok (.ifCond .ne 7, 3) := by decide +kernel
theorem dX8_swings_44 : decode cX8_swings 44 = .ok (.iconst 1, 1) := by decide +kernel
theorem dX8_swings_45 : decode cX8_swings 45 = .ok (.goto 4, 3) := by decide +kernel
theorem dX8_swings_48 : decode cX8_swings 48 = .ok (.iconst 0, 1) := by decide +kernel
theorem dX8_swings_49 : decode cX8_swings 49 = .ok (.iadd, 1) := by decide +kernel
theorem dX8_swings_50 : decode cX8_swings 50 = .ok (.istore_n 2, 1) := by decide +kernel
theorem dX8_swings_51 : decode cX8_swings 51 = .ok (.iinc 3 1, 3) := by decide +kernel
theorem dX8_swings_54 : decode cX8_swings 54 = .ok (.goto (-50), 3) := by decide +kernel
theorem dX8_swings_57 : decode cX8_swings 57 = .ok (.iload_n 2, 1) := by decide +kernel
theorem dX8_swings_58 : decode cX8_swings 58 = .ok (.ireturn, 1) := by decide +kernel
set_option maxRecDepth 20000 in
theorem ggX8_allSwings_X8_swings : GoodIn wsX8_allSwings wsX8_swings := goodIn_r _ [5, 6, 7, 8, 4, 9, 10, 11, 12, 13, 14, 15, 16, 17, 18, 19, 20, 21, 22, 23] (by decide +kernel) (by decide +kernel)
set_option maxRecDepth 20000 in
theorem gX8_allSwings_X8_swings : GoodIn wsX8_allSwings (wsV RX8 78 RX8 yX8_swings wsX8_swings) := goodIn_app (goodIn_of _ (by decide +kernel)) ggX8_allSwings_X8_swings
theorem dX8_allSwings_0 : decode cX8_allSwings 0 = .ok (.iconst 0, 1) := by decide +kernel
theorem dX8_allSwings_1 : decode cX8_allSwings 1 = .ok (.istore_n 1, 1) := by decide +kernel
theorem dX8_allSwings_2 : decode cX8_allSwings 2 = .ok (.iconst 0, 1) := by decide +kernel
theorem dX8_allSwings_3 : decode cX8_allSwings 3 = .ok (.istore_n 2, 1) := by decide +kernel
theorem dX8_allSwings_4 : decode cX8_allSwings 4 = .ok (.iload_n 2, 1) := by decide +kernel
theorem dX8_allSwings_5 : decode cX8_allSwings 5 = .ok (.bipush 8, 2) := by decide +kernel
theorem dX8_allSwings_7 : decode cX8_allSwings 7 = .ok (.if_icmp .ge 17, 3) := by decide +kernel
theorem dX8_allSwings_10 : decode cX8_allSwings 10 = .ok (.iload_n 1, 1) := by decide +kernel
theorem dX8_allSwings_11 : decode cX8_allSwings 11 = .ok (.aload_n 0, 1) := by decide +kernel
theorem dX8_allSwings_12 : decode cX8_allSwings 12 = .ok (.iload_n 2, 1) := by decide +kernel
theorem dX8_allSwings_13 : decode cX8_allSwings 13 = .ok (.invokevirtual 78, 3) := by decide +kernel
theorem dX8_allSwings_16 : decode cX8_allSwings 16 = .ok (.iadd, 1) := by decide +kernel
theorem dX8_allSwings_17 : decode cX8_allSwings 17 = .ok (.istore_n 1, 1) := by decide +kernel
theorem dX8_allSwings_18 : decode cX8_allSwings 18 = .ok (.iinc 2 1, 3) := by decide +kernel
theorem dX8_allSwings_21 : decode cX8_allSwings 21 = .ok (.goto (-17), 3) := by decide +kernel
theorem dX8_allSwings_24 : decode cX8_allSwings 24 = .ok (.iload_n 1, 1) := by decide +kernel
theorem dX8_allSwings_25 : decode cX8_allSwings 25 = .ok (.ireturn, 1) := by decide +kernel
theorem dX8_factorial_0 : decode cX8_factorial 0 = .ok (.iconst 1, 1) := by decide +kernel
theorem dX8_factorial_1 : decode cX8_factorial 1 = .ok (.istore_n 1, 1) := by decide +kernel
theorem dX8_factorial_2 : decode cX8_factorial 2 = .ok (.iconst 2, 1) := by decide +kernel
theorem dX8_factorial_3 : decode cX8_factorial 3 = .ok (.istore_n 2, 1) := by decide +kernel
theorem dX8_factorial_4 : decode cX8_factorial 4 = .ok (.iload_n 2, 1) := by decide +kernel
theorem dX8_factorial_5 : decode cX8_factorial 5 = .ok (.iload_n 0, 1) := by decide +kernel
theorem dX8_factorial_6 : decode cX8_factorial 6 = .ok (.if_icmp .gt 13, 3) := by decide +kernel
theorem dX8_factorial_9 : decode cX8_factorial 9 = .ok (.iload_n 1, 1) := by decide +kernel
theorem dX8_factorial_10 : decode cX8_factorial 10 = .ok (.iload_n 2, 1) := by decide +kernel
theorem dX8_factorial_11 : decode cX8_factorial 11 = .ok (.imul, 1) := by decide +kernel
theorem dX8_factorial_12 : decode cX8_factorial 12 = .ok (.istore_n 1, 1) := by decide +kernel
theorem dX8_factorial_13 : decode cX8_factorial 13 = .ok (.iinc 2 1, 3) := by decide +kernel
theorem dX8_factorial_16 : decode cX8_factorial 16 = .ok (.goto (-12), 3) := by decide +kernel
theorem dX8_factorial_19 : decode cX8_factorial 19 = .ok (.iload_n 1, 1) := by decide +kernel
theorem dX8_factorial_20 : decode cX8_factorial 20 = .ok (.ireturn, 1) := by decide +kernel
set_option maxRecDepth 20000 in
theorem ggX8_orders_X8_ones : GoodIn wsX8_orders wsX8_ones := goodIn_r _ [6] (by decide +kernel) (by decide +kernel)
set_option maxRecDepth 20000 in
theorem gX8_orders_X8_ones : GoodIn wsX8_orders (va_wsS RX8 54 yX8_ones wsX8_ones) := goodIn_app (goodIn_of _ (by decide +kernel)) ggX8_orders_X8_ones
set_option maxRecDepth 20000 in
theorem ggX8_orders_X8_has : GoodIn wsX8_orders wsX8_has := goodIn_r _ [9] (by decide +kernel) (by decide +kernel)
set_option maxRecDepth 20000 in
theorem gX8_orders_X8_has : GoodIn wsX8_orders (va_wsS RX8 50 yX8_has wsX8_has) := goodIn_app (goodIn_of _ (by decide +kernel)) ggX8_orders_X8_has
set_option maxRecDepth 20000 in
theorem ggX8_orders_X8_factorial : GoodIn wsX8_orders wsX8_factorial := goodIn_r _ [12] (by decide +kernel) (by decide +kernel)
set_option maxRecDepth 20000 in
theorem gX8_orders_X8_factorial : GoodIn wsX8_orders (va_wsS RX8 81 yX8_factorial wsX8_factorial) := goodIn_app (goodIn_of _ (by decide +kernel)) ggX8_orders_X8_factorial
theorem dX8_orders_0 : decode cX8_orders 0 = .ok (.iconst 0, 1) := by decide +kernel
theorem dX8_orders_1 : decode cX8_orders 1 = .ok (.istore_n 2, 1) := by decide +kernel
theorem dX8_orders_2 : decode cX8_orders 2 = .ok (.aload_n 0, 1) := by decide +kernel
theorem dX8_orders_3 : decode cX8_orders 3 = .ok (.getfield 71, 3) := by decide +kernel
theorem dX8_orders_6 : decode cX8_orders 6 = .ok (.invokestatic 54, 3) := by decide +kernel
theorem dX8_orders_9 : decode cX8_orders 9 = .ok (.istore_n 3, 1) := by decide +kernel
theorem dX8_orders_10 : decode cX8_orders 10 = .ok (.iconst 0, 1) := by decide +kernel
theorem dX8_orders_11 : decode cX8_orders 11 = .ok (.istore 4, 2) := by decide +kernel
theorem dX8_orders_13 : decode cX8_orders 13 = .ok (.iload 4, 2) := by decide +kernel
theorem dX8_orders_15 : decode cX8_orders 15 = .ok (.sipush 256, 3) := by decide +kernel
theorem dX8_orders_18 : decode cX8_orders 18 = .ok (.if_icmp .ge 84, 3) := by decide +kernel
theorem dX8_orders_21 : decode cX8_orders 21 = .ok (.iload 4, 2) := by decide +kernel
theorem dX8_orders_23 : decode cX8_orders 23 = .ok (.iload_n 1, 1) := by decide +kernel
theorem dX8_orders_24 : decode cX8_orders 24 = .ok (.invokestatic 50, 3) := by decide +kernel
theorem dX8_orders_27 : decode cX8_orders 27 = .ok (.ifCond .eq 33, 3) := by decide +kernel
theorem dX8_orders_30 : decode cX8_orders 30 = .ok (.aload_n 0, 1) := by decide +kernel
theorem dX8_orders_31 : decode cX8_orders 31 = .ok (.getfield 19, 3) := by decide +kernel
theorem dX8_orders_34 : decode cX8_orders 34 = .ok (.iload 4, 2) := by decide +kernel
theorem dX8_orders_36 : decode cX8_orders 36 = .ok (.baload, 1) := by decide +kernel
theorem dX8_orders_37 : decode cX8_orders 37 = .ok (.ifCond .eq 23, 3) := by decide +kernel
theorem dX8_orders_40 : decode cX8_orders 40 = .ok (.aload_n 0, 1) := by decide +kernel
theorem dX8_orders_41 : decode cX8_orders 41 = .ok (.getfield 19, 3) := by decide +kernel
theorem dX8_orders_44 : decode cX8_orders 44 = .ok (.iload 4, 2) := by decide +kernel
theorem dX8_orders_46 : decode cX8_orders 46 = .ok (.iconst 1, 1) := by decide +kernel
theorem dX8_orders_47 : decode cX8_orders 47 = .ok (.iload_n 1, 1) := by decide +kernel
theorem dX8_orders_48 : decode cX8_orders 48 = .ok (.ishl, 1) := by decide +kernel
theorem dX8_orders_49 : decode cX8_orders 49 = .ok (.iconst (-1), 1) := by decide +kernel
theorem dX8_orders_50 : decode cX8_orders 50 = .ok (.ixor, 1) := by decide +kernel
theorem dX8_orders_51 : decode cX8_orders 51 = .ok (.iand, 1) := by decide +kernel
theorem dX8_orders_52 : decode cX8_orders 52 = .ok (.baload, 1) := by decide +kernel
theorem dX8_orders_53 : decode cX8_orders 53 = .ok (.ifCond .ne 7, 3) := by decide +kernel
theorem dX8_orders_56 : decode cX8_orders 56 = .ok (.iconst 1, 1) := by decide +kernel
theorem dX8_orders_57 : decode cX8_orders 57 = .ok (.goto 4, 3) := by decide +kernel
theorem dX8_orders_60 : decode cX8_orders 60 = .ok (.iconst 0, 1) := by decide +kernel
theorem dX8_orders_61 : decode cX8_orders 61 = .ok (.istore 5, 2) := by decide +kernel
theorem dX8_orders_63 : decode cX8_orders 63 = .ok (.iload_n 2, 1) := by decide +kernel
theorem dX8_orders_64 : decode cX8_orders 64 = .ok (.iload 5, 2) := by decide +kernel
theorem dX8_orders_66 : decode cX8_orders 66 = .ok (.ifCond .eq 27, 3) := by decide +kernel
theorem dX8_orders_69 : decode cX8_orders 69 = .ok (.iload 4, 2) := by decide +kernel
theorem dX8_orders_71 : decode cX8_orders 71 = .ok (.invokestatic 54, 3) := by decide +kernel
theorem dX8_orders_74 : decode cX8_orders 74 = .ok (.iconst 1, 1) := by decide +kernel
theorem dX8_orders_75 : decode cX8_orders 75 = .ok (.isub, 1) := by decide +kernel
theorem dX8_orders_76 : decode cX8_orders 76 = .ok (.invokestatic 81, 3) := by decide +kernel
theorem dX8_orders_79 : decode cX8_orders 79 = .ok (.iload_n 3, 1) := by decide +kernel
theorem dX8_orders_80 : decode cX8_orders 80 = .ok (.iload 4, 2) := by decide +kernel
theorem dX8_orders_82 : decode cX8_orders 82 = .ok (.invokestatic 54, 3) := by decide +kernel
theorem dX8_orders_85 : decode cX8_orders 85 = .ok (.isub, 1) := by decide +kernel
theorem dX8_orders_86 : decode cX8_orders 86 = .ok (.invokestatic 81, 3) := by decide +kernel
theorem dX8_orders_89 : decode cX8_orders 89 = .ok (.imul, 1) := by decide +kernel
theorem dX8_orders_90 : decode cX8_orders 90 = .ok (.goto 4, 3) := by decide +kernel
theorem dX8_orders_93 : decode cX8_orders 93 = .ok (.iconst 0, 1) := by decide +kernel
theorem dX8_orders_94 : decode cX8_orders 94 = .ok (.iadd, 1) := by decide +kernel
theorem dX8_orders_95 : decode cX8_orders 95 = .ok (.istore_n 2, 1) := by decide +kernel
theorem dX8_orders_96 : decode cX8_orders 96 = .ok (.iinc 4 1, 3) := by decide +kernel
theorem dX8_orders_99 : decode cX8_orders 99 = .ok (.goto (-86), 3) := by decide +kernel
theorem dX8_orders_102 : decode cX8_orders 102 = .ok (.iload_n 2, 1) := by decide +kernel
theorem dX8_orders_103 : decode cX8_orders 103 = .ok (.ireturn, 1) := by decide +kernel
set_option maxRecDepth 20000 in
theorem ggX8_isNeeded_X8_has : GoodIn wsX8_isNeeded wsX8_has := goodIn_r _ [6] (by decide +kernel) (by decide +kernel)
set_option maxRecDepth 20000 in
theorem gX8_isNeeded_X8_has : GoodIn wsX8_isNeeded (va_wsS RX8 50 yX8_has wsX8_has) := goodIn_app (goodIn_of _ (by decide +kernel)) ggX8_isNeeded_X8_has
theorem dX8_isNeeded_0 : decode cX8_isNeeded 0 = .ok (.aload_n 0, 1) := by decide +kernel
theorem dX8_isNeeded_1 : decode cX8_isNeeded 1 = .ok (.getfield 19, 3) := by decide +kernel
theorem dX8_isNeeded_4 : decode cX8_isNeeded 4 = .ok (.aload_n 0, 1) := by decide +kernel
theorem dX8_isNeeded_5 : decode cX8_isNeeded 5 = .ok (.getfield 71, 3) := by decide +kernel
theorem dX8_isNeeded_8 : decode cX8_isNeeded 8 = .ok (.baload, 1) := by decide +kernel
theorem dX8_isNeeded_9 : decode cX8_isNeeded 9 = .ok (.istore_n 2, 1) := by decide +kernel
theorem dX8_isNeeded_10 : decode cX8_isNeeded 10 = .ok (.iconst 0, 1) := by decide +kernel
theorem dX8_isNeeded_11 : decode cX8_isNeeded 11 = .ok (.istore_n 3, 1) := by decide +kernel
theorem dX8_isNeeded_12 : decode cX8_isNeeded 12 = .ok (.iload_n 3, 1) := by decide +kernel
theorem dX8_isNeeded_13 : decode cX8_isNeeded 13 = .ok (.sipush 256, 3) := by decide +kernel
theorem dX8_isNeeded_16 : decode cX8_isNeeded 16 = .ok (.if_icmp .ge 36, 3) := by decide +kernel
theorem dX8_isNeeded_19 : decode cX8_isNeeded 19 = .ok (.iload_n 2, 1) := by decide +kernel
theorem dX8_isNeeded_20 : decode cX8_isNeeded 20 = .ok (.ifCond .eq 24, 3) := by decide +kernel
theorem dX8_isNeeded_23 : decode cX8_isNeeded 23 = .ok (.aload_n 0, 1) := by decide +kernel
theorem dX8_isNeeded_24 : decode cX8_isNeeded 24 = .ok (.getfield 19, 3) := by decide +kernel
theorem dX8_isNeeded_27 : decode cX8_isNeeded 27 = .ok (.iload_n 3, 1) := by decide +kernel
theorem dX8_isNeeded_28 : decode cX8_isNeeded 28 = .ok (.baload, 1) := by decide +kernel
theorem dX8_isNeeded_29 : decode cX8_isNeeded 29 = .ok (.ifCond .eq 11, 3) := by decide +kernel
theorem dX8_isNeeded_32 : decode cX8_isNeeded 32 = .ok (.iload_n 3, 1) := by decide +kernel
theorem dX8_isNeeded_33 : decode cX8_isNeeded 33 = .ok (.iload_n 1, 1) := by decide +kernel
theorem dX8_isNeeded_34 : decode cX8_isNeeded 34 = .ok (.invokestatic 50, 3) := by decide +kernel
theorem dX8_isNeeded_37 : decode cX8_isNeeded 37 = .ok (.ifCond .eq 7, 3) := by decide +kernel
theorem dX8_isNeeded_40 : decode cX8_isNeeded 40 = .ok (.iconst 1, 1) := by decide +kernel
theorem dX8_isNeeded_41 : decode cX8_isNeeded 41 = .ok (.goto 4, 3) := by decide +kernel
theorem dX8_isNeeded_44 : decode cX8_isNeeded 44 = .ok (.iconst 0, 1) := by decide +kernel
theorem dX8_isNeeded_45 : decode cX8_isNeeded 45 = .ok (.istore_n 2, 1) := by decide +kernel
theorem dX8_isNeeded_46 : decode cX8_isNeeded 46 = .ok (.iinc 3 1, 3) := by decide +kernel
theorem dX8_isNeeded_49 : decode cX8_isNeeded 49 = .ok (.goto (-37), 3) := by decide +kernel
theorem dX8_isNeeded_52 : decode cX8_isNeeded 52 = .ok (.iload_n 2, 1) := by decide +kernel
theorem dX8_isNeeded_53 : decode cX8_isNeeded 53 = .ok (.ireturn, 1) := by decide +kernel
set_option maxRecDepth 20000 in
theorem ggX8_isLeast_X8_has : GoodIn wsX8_isLeast wsX8_has := goodIn_r _ [5] (by decide +kernel) (by decide +kernel)
set_option maxRecDepth 20000 in
theorem gX8_isLeast_X8_has : GoodIn wsX8_isLeast (va_wsS RX8 50 yX8_has wsX8_has) := goodIn_app (goodIn_of _ (by decide +kernel)) ggX8_isLeast_X8_has
theorem dX8_isLeast_0 : decode cX8_isLeast 0 = .ok (.aload_n 0, 1) := by decide +kernel
theorem dX8_isLeast_1 : decode cX8_isLeast 1 = .ok (.getfield 19, 3) := by decide +kernel
theorem dX8_isLeast_4 : decode cX8_isLeast 4 = .ok (.iload_n 1, 1) := by decide +kernel
theorem dX8_isLeast_5 : decode cX8_isLeast 5 = .ok (.baload, 1) := by decide +kernel
theorem dX8_isLeast_6 : decode cX8_isLeast 6 = .ok (.istore_n 2, 1) := by decide +kernel
theorem dX8_isLeast_7 : decode cX8_isLeast 7 = .ok (.iconst 0, 1) := by decide +kernel
theorem dX8_isLeast_8 : decode cX8_isLeast 8 = .ok (.istore_n 3, 1) := by decide +kernel
theorem dX8_isLeast_9 : decode cX8_isLeast 9 = .ok (.iload_n 3, 1) := by decide +kernel
theorem dX8_isLeast_10 : decode cX8_isLeast 10 = .ok (.bipush 8, 2) := by decide +kernel
theorem dX8_isLeast_12 : decode cX8_isLeast 12 = .ok (.if_icmp .ge 42, 3) := by decide +kernel
theorem dX8_isLeast_15 : decode cX8_isLeast 15 = .ok (.iload_n 2, 1) := by decide +kernel
theorem dX8_isLeast_16 : decode cX8_isLeast 16 = .ok (.ifCond .eq 30, 3) := by decide +kernel
theorem dX8_isLeast_19 : decode cX8_isLeast 19 = .ok (.iload_n 1, 1) := by decide +kernel
theorem dX8_isLeast_20 : decode cX8_isLeast 20 = .ok (.iload_n 3, 1) := by decide +kernel
theorem dX8_isLeast_21 : decode cX8_isLeast 21 = .ok (.invokestatic 50, 3) := by decide +kernel
theorem dX8_isLeast_24 : decode cX8_isLeast 24 = .ok (.ifCond .eq 18, 3) := by decide +kernel
theorem dX8_isLeast_27 : decode cX8_isLeast 27 = .ok (.aload_n 0, 1) := by decide +kernel
theorem dX8_isLeast_28 : decode cX8_isLeast 28 = .ok (.getfield 19, 3) := by decide +kernel
theorem dX8_isLeast_31 : decode cX8_isLeast 31 = .ok (.iload_n 1, 1) := by decide +kernel
theorem dX8_isLeast_32 : decode cX8_isLeast 32 = .ok (.iconst 1, 1) := by decide +kernel
theorem dX8_isLeast_33 : decode cX8_isLeast 33 = .ok (.iload_n 3, 1) := by decide +kernel
theorem dX8_isLeast_34 : decode cX8_isLeast 34 = .ok (.ishl, 1) := by decide +kernel
theorem dX8_isLeast_35 : decode cX8_isLeast 35 = .ok (.iconst (-1), 1) := by decide +kernel
theorem dX8_isLeast_36 : decode cX8_isLeast 36 = .ok (.ixor, 1) := by decide +kernel
theorem dX8_isLeast_37 : decode cX8_isLeast 37 = .ok (.iand, 1) := by decide +kernel
theorem dX8_isLeast_38 : decode cX8_isLeast 38 = .ok (.baload, 1) := by decide +kernel
theorem dX8_isLeast_39 : decode cX8_isLeast 39 = .ok (.ifCond .ne 7, 3) := by decide +kernel
theorem dX8_isLeast_42 : decode cX8_isLeast 42 = .ok (.iconst 1, 1) := by decide +kernel
theorem dX8_isLeast_43 : decode cX8_isLeast 43 = .ok (.goto 4, 3) := by decide +kernel
theorem dX8_isLeast_46 : decode cX8_isLeast 46 = .ok (.iconst 0, 1) := by decide +kernel
theorem dX8_isLeast_47 : decode cX8_isLeast 47 = .ok (.istore_n 2, 1) := by decide +kernel
theorem dX8_isLeast_48 : decode cX8_isLeast 48 = .ok (.iinc 3 1, 3) := by decide +kernel
theorem dX8_isLeast_51 : decode cX8_isLeast 51 = .ok (.goto (-42), 3) := by decide +kernel
theorem dX8_isLeast_54 : decode cX8_isLeast 54 = .ok (.iload_n 2, 1) := by decide +kernel
theorem dX8_isLeast_55 : decode cX8_isLeast 55 = .ok (.ireturn, 1) := by decide +kernel
set_option maxRecDepth 20000 in
theorem ggX8_dummies_X8_isPlayer : GoodIn wsX8_dummies wsX8_isPlayer := goodIn_r _ [6, 1, 7, 8, 9, 5, 10, 19, 20, 21, 22, 23, 24, 25, 26, 27, 28, 29, 30, 31, 32] (by decide +kernel) (by decide +kernel)
set_option maxRecDepth 20000 in
theorem gX8_dummies_X8_isPlayer : GoodIn wsX8_dummies (wsV RX8 47 RX8 yX8_isPlayer wsX8_isPlayer) := goodIn_app (goodIn_of _ (by decide +kernel)) ggX8_dummies_X8_isPlayer
set_option maxRecDepth 20000 in
theorem ggX8_dummies_X8_swings : GoodIn wsX8_dummies wsX8_swings := goodIn_r _ [14, 15, 16, 17, 5, 18, 19, 20, 21, 22, 23, 24, 25, 26, 27, 28, 29, 30, 31, 32] (by decide +kernel) (by decide +kernel)
set_option maxRecDepth 20000 in
theorem gX8_dummies_X8_swings : GoodIn wsX8_dummies (wsV RX8 78 RX8 yX8_swings wsX8_swings) := goodIn_app (goodIn_of _ (by decide +kernel)) ggX8_dummies_X8_swings
theorem dX8_dummies_0 : decode cX8_dummies 0 = .ok (.iconst 0, 1) := by decide +kernel
theorem dX8_dummies_1 : decode cX8_dummies 1 = .ok (.istore_n 1, 1) := by decide +kernel
theorem dX8_dummies_2 : decode cX8_dummies 2 = .ok (.iconst 0, 1) := by decide +kernel
theorem dX8_dummies_3 : decode cX8_dummies 3 = .ok (.istore_n 2, 1) := by decide +kernel
theorem dX8_dummies_4 : decode cX8_dummies 4 = .ok (.iload_n 2, 1) := by decide +kernel
theorem dX8_dummies_5 : decode cX8_dummies 5 = .ok (.aload_n 0, 1) := by decide +kernel
theorem dX8_dummies_6 : decode cX8_dummies 6 = .ok (.getfield 7, 3) := by decide +kernel
theorem dX8_dummies_9 : decode cX8_dummies 9 = .ok (.iconst 0, 1) := by decide +kernel
theorem dX8_dummies_10 : decode cX8_dummies 10 = .ok (.iaload, 1) := by decide +kernel
theorem dX8_dummies_11 : decode cX8_dummies 11 = .ok (.if_icmp .ge 35, 3) := by decide +kernel
theorem dX8_dummies_14 : decode cX8_dummies 14 = .ok (.iload_n 1, 1) := by decide +kernel
theorem dX8_dummies_15 : decode cX8_dummies 15 = .ok (.aload_n 0, 1) := by decide +kernel
theorem dX8_dummies_16 : decode cX8_dummies 16 = .ok (.iload_n 2, 1) := by decide +kernel
theorem dX8_dummies_17 : decode cX8_dummies 17 = .ok (.invokevirtual 47, 3) := by decide +kernel
theorem dX8_dummies_20 : decode cX8_dummies 20 = .ok (.ifCond .eq 17, 3) := by decide +kernel
theorem dX8_dummies_23 : decode cX8_dummies 23 = .ok (.aload_n 0, 1) := by decide +kernel
theorem dX8_dummies_24 : decode cX8_dummies 24 = .ok (.iload_n 2, 1) := by decide +kernel
theorem dX8_dummies_25 : decode cX8_dummies 25 = .ok (.invokevirtual 78, 3) := by decide +kernel
theorem dX8_dummies_28 : decode cX8_dummies 28 = .ok (.ifCond .ne 9, 3) := by decide +kernel
theorem dX8_dummies_31 : decode cX8_dummies 31 = .ok (.iconst 1, 1) := by decide +kernel
theorem dX8_dummies_32 : decode cX8_dummies 32 = .ok (.iload_n 2, 1) := by decide +kernel
theorem dX8_dummies_33 : decode cX8_dummies 33 = .ok (.ishl, 1) := by decide +kernel
theorem dX8_dummies_34 : decode cX8_dummies 34 = .ok (.goto 4, 3) := by decide +kernel
theorem dX8_dummies_37 : decode cX8_dummies 37 = .ok (.iconst 0, 1) := by decide +kernel
theorem dX8_dummies_38 : decode cX8_dummies 38 = .ok (.ior, 1) := by decide +kernel
theorem dX8_dummies_39 : decode cX8_dummies 39 = .ok (.istore_n 1, 1) := by decide +kernel
theorem dX8_dummies_40 : decode cX8_dummies 40 = .ok (.iinc 2 1, 3) := by decide +kernel
theorem dX8_dummies_43 : decode cX8_dummies 43 = .ok (.goto (-39), 3) := by decide +kernel
theorem dX8_dummies_46 : decode cX8_dummies 46 = .ok (.iload_n 1, 1) := by decide +kernel
theorem dX8_dummies_47 : decode cX8_dummies 47 = .ok (.ireturn, 1) := by decide +kernel
set_option maxRecDepth 20000 in
theorem ggX8_needed_X8_isPlayer : GoodIn wsX8_needed wsX8_isPlayer := goodIn_r _ [6, 1, 7, 8, 9, 5, 10, 20, 21, 22, 23, 24, 25, 26, 27, 28, 29, 30, 31, 32, 33] (by decide +kernel) (by decide +kernel)
set_option maxRecDepth 20000 in
theorem gX8_needed_X8_isPlayer : GoodIn wsX8_needed (wsV RX8 47 RX8 yX8_isPlayer wsX8_isPlayer) := goodIn_app (goodIn_of _ (by decide +kernel)) ggX8_needed_X8_isPlayer
set_option maxRecDepth 20000 in
theorem ggX8_needed_X8_isNeeded : GoodIn wsX8_needed wsX8_isNeeded := goodIn_r _ [14, 15, 16, 17, 18, 5, 19, 20, 21, 22, 23, 24, 25, 26, 27, 28, 29, 30, 31, 32, 33] (by decide +kernel) (by decide +kernel)
set_option maxRecDepth 20000 in
theorem gX8_needed_X8_isNeeded : GoodIn wsX8_needed (wsV RX8 84 RX8 yX8_isNeeded wsX8_isNeeded) := goodIn_app (goodIn_of _ (by decide +kernel)) ggX8_needed_X8_isNeeded
theorem dX8_needed_0 : decode cX8_needed 0 = .ok (.iconst 0, 1) := by decide +kernel
theorem dX8_needed_1 : decode cX8_needed 1 = .ok (.istore_n 1, 1) := by decide +kernel
theorem dX8_needed_2 : decode cX8_needed 2 = .ok (.iconst 0, 1) := by decide +kernel
theorem dX8_needed_3 : decode cX8_needed 3 = .ok (.istore_n 2, 1) := by decide +kernel
theorem dX8_needed_4 : decode cX8_needed 4 = .ok (.iload_n 2, 1) := by decide +kernel
theorem dX8_needed_5 : decode cX8_needed 5 = .ok (.aload_n 0, 1) := by decide +kernel
theorem dX8_needed_6 : decode cX8_needed 6 = .ok (.getfield 7, 3) := by decide +kernel
theorem dX8_needed_9 : decode cX8_needed 9 = .ok (.iconst 0, 1) := by decide +kernel
theorem dX8_needed_10 : decode cX8_needed 10 = .ok (.iaload, 1) := by decide +kernel
theorem dX8_needed_11 : decode cX8_needed 11 = .ok (.if_icmp .ge 35, 3) := by decide +kernel
theorem dX8_needed_14 : decode cX8_needed 14 = .ok (.iload_n 1, 1) := by decide +kernel
theorem dX8_needed_15 : decode cX8_needed 15 = .ok (.aload_n 0, 1) := by decide +kernel
theorem dX8_needed_16 : decode cX8_needed 16 = .ok (.iload_n 2, 1) := by decide +kernel
theorem dX8_needed_17 : decode cX8_needed 17 = .ok (.invokevirtual 47, 3) := by decide +kernel
theorem dX8_needed_20 : decode cX8_needed 20 = .ok (.ifCond .eq 17, 3) := by decide +kernel
theorem dX8_needed_23 : decode cX8_needed 23 = .ok (.aload_n 0, 1) := by decide +kernel
theorem dX8_needed_24 : decode cX8_needed 24 = .ok (.iload_n 2, 1) := by decide +kernel
theorem dX8_needed_25 : decode cX8_needed 25 = .ok (.invokevirtual 84, 3) := by decide +kernel
theorem dX8_needed_28 : decode cX8_needed 28 = .ok (.ifCond .eq 9, 3) := by decide +kernel
theorem dX8_needed_31 : decode cX8_needed 31 = .ok (.iconst 1, 1) := by decide +kernel
theorem dX8_needed_32 : decode cX8_needed 32 = .ok (.iload_n 2, 1) := by decide +kernel
theorem dX8_needed_33 : decode cX8_needed 33 = .ok (.ishl, 1) := by decide +kernel
theorem dX8_needed_34 : decode cX8_needed 34 = .ok (.goto 4, 3) := by decide +kernel
theorem dX8_needed_37 : decode cX8_needed 37 = .ok (.iconst 0, 1) := by decide +kernel
theorem dX8_needed_38 : decode cX8_needed 38 = .ok (.ior, 1) := by decide +kernel
theorem dX8_needed_39 : decode cX8_needed 39 = .ok (.istore_n 1, 1) := by decide +kernel
theorem dX8_needed_40 : decode cX8_needed 40 = .ok (.iinc 2 1, 3) := by decide +kernel
theorem dX8_needed_43 : decode cX8_needed 43 = .ok (.goto (-39), 3) := by decide +kernel
theorem dX8_needed_46 : decode cX8_needed 46 = .ok (.iload_n 1, 1) := by decide +kernel
theorem dX8_needed_47 : decode cX8_needed 47 = .ok (.ireturn, 1) := by decide +kernel
set_option maxRecDepth 20000 in
theorem ggX8_shareOf_X8_allSwings : GoodIn wsX8_shareOf wsX8_allSwings := goodIn_r _ [5, 6, 7, 8, 4, 9, 10, 11, 12, 13, 14, 15, 16, 17, 18, 19, 20, 21, 22, 23, 24, 25, 26, 27] (by decide +kernel) (by decide +kernel)
set_option maxRecDepth 20000 in
theorem gX8_shareOf_X8_allSwings : GoodIn wsX8_shareOf (wsV RX8 87 RX8 yX8_allSwings wsX8_allSwings) := goodIn_app (goodIn_of _ (by decide +kernel)) ggX8_shareOf_X8_allSwings
set_option maxRecDepth 20000 in
theorem ggX8_shareOf_X8_swings : GoodIn wsX8_shareOf wsX8_swings := goodIn_r _ [9, 10, 11, 12, 4, 13, 14, 15, 16, 17, 18, 19, 20, 21, 22, 23, 24, 25, 26, 27] (by decide +kernel) (by decide +kernel)
set_option maxRecDepth 20000 in
theorem gX8_shareOf_X8_swings : GoodIn wsX8_shareOf (wsV RX8 78 RX8 yX8_swings wsX8_swings) := goodIn_app (goodIn_of _ (by decide +kernel)) ggX8_shareOf_X8_swings
theorem dX8_shareOf_0 : decode cX8_shareOf 0 = .ok (.aload_n 0, 1) := by decide +kernel
theorem dX8_shareOf_1 : decode cX8_shareOf 1 = .ok (.invokevirtual 87, 3) := by decide +kernel
theorem dX8_shareOf_4 : decode cX8_shareOf 4 = .ok (.istore_n 2, 1) := by decide +kernel
theorem dX8_shareOf_5 : decode cX8_shareOf 5 = .ok (.iload_n 2, 1) := by decide +kernel
theorem dX8_shareOf_6 : decode cX8_shareOf 6 = .ok (.ifCond .ne 7, 3) := by decide +kernel
theorem dX8_shareOf_9 : decode cX8_shareOf 9 = .ok (.fconst 0, 1) := by decide +kernel
theorem dX8_shareOf_10 : decode cX8_shareOf 10 = .ok (.goto 12, 3) := by decide +kernel
theorem dX8_shareOf_13 : decode cX8_shareOf 13 = .ok (.aload_n 0, 1) := by decide +kernel
theorem dX8_shareOf_14 : decode cX8_shareOf 14 = .ok (.iload_n 1, 1) := by decide +kernel
theorem dX8_shareOf_15 : decode cX8_shareOf 15 = .ok (.invokevirtual 78, 3) := by decide +kernel
theorem dX8_shareOf_18 : decode cX8_shareOf 18 = .ok (.i2f, 1) := by decide +kernel
theorem dX8_shareOf_19 : decode cX8_shareOf 19 = .ok (.iload_n 2, 1) := by decide +kernel
theorem dX8_shareOf_20 : decode cX8_shareOf 20 = .ok (.i2f, 1) := by decide +kernel
theorem dX8_shareOf_21 : decode cX8_shareOf 21 = .ok (.fdiv, 1) := by decide +kernel
theorem dX8_shareOf_22 : decode cX8_shareOf 22 = .ok (.freturn, 1) := by decide +kernel
set_option maxRecDepth 20000 in
theorem ggX8_partOf_X8_isPlayer : GoodIn wsX8_partOf wsX8_isPlayer := goodIn_r _ [6, 7, 8, 9, 10, 5, 11, 26, 27, 28, 29, 30, 31, 32, 33, 34, 35, 36, 37, 38, 39] (by decide +kernel) (by decide +kernel)
set_option maxRecDepth 20000 in
theorem gX8_partOf_X8_isPlayer : GoodIn wsX8_partOf (wsV RX8 47 RX8 yX8_isPlayer wsX8_isPlayer) := goodIn_app (goodIn_of _ (by decide +kernel)) ggX8_partOf_X8_isPlayer
set_option maxRecDepth 20000 in
theorem ggX8_partOf_X8_orders : GoodIn wsX8_partOf wsX8_orders := goodIn_r _ [15, 1, 16, 17, 18, 5, 19, 20, 21, 22, 23, 24, 25, 26, 27, 28, 29, 30, 31, 32, 33, 34, 35, 36, 37, 38, 39] (by decide +kernel) (by decide +kernel)
set_option maxRecDepth 20000 in
theorem gX8_partOf_X8_orders : GoodIn wsX8_partOf (wsV RX8 90 RX8 yX8_orders wsX8_orders) := goodIn_app (goodIn_of _ (by decide +kernel)) ggX8_partOf_X8_orders
set_option maxRecDepth 20000 in
theorem ggX8_partOf_X8_ones : GoodIn wsX8_partOf wsX8_ones := goodIn_r _ [19] (by decide +kernel) (by decide +kernel)
set_option maxRecDepth 20000 in
theorem gX8_partOf_X8_ones : GoodIn wsX8_partOf (va_wsS RX8 54 yX8_ones wsX8_ones) := goodIn_app (goodIn_of _ (by decide +kernel)) ggX8_partOf_X8_ones
set_option maxRecDepth 20000 in
theorem ggX8_partOf_X8_factorial : GoodIn wsX8_partOf wsX8_factorial := goodIn_r _ [25] (by decide +kernel) (by decide +kernel)
set_option maxRecDepth 20000 in
theorem gX8_partOf_X8_factorial : GoodIn wsX8_partOf (va_wsS RX8 81 yX8_factorial wsX8_factorial) := goodIn_app (goodIn_of _ (by decide +kernel)) ggX8_partOf_X8_factorial
theorem dX8_partOf_0 : decode cX8_partOf 0 = .ok (.aload_n 0, 1) := by decide +kernel
theorem dX8_partOf_1 : decode cX8_partOf 1 = .ok (.iload_n 1, 1) := by decide +kernel
theorem dX8_partOf_2 : decode cX8_partOf 2 = .ok (.invokevirtual 47, 3) := by decide +kernel
theorem dX8_partOf_5 : decode cX8_partOf 5 = .ok (.ifCond .eq 24, 3) := by decide +kernel
theorem dX8_partOf_8 : decode cX8_partOf 8 = .ok (.aload_n 0, 1) := by decide +kernel
theorem dX8_partOf_9 : decode cX8_partOf 9 = .ok (.iload_n 1, 1) := by decide +kernel
theorem dX8_partOf_10 : decode cX8_partOf 10 = .ok (.invokevirtual 90, 3) := by decide +kernel
theorem dX8_partOf_13 : decode cX8_partOf 13 = .ok (.i2d, 1) := by decide +kernel
theorem dX8_partOf_14 : decode cX8_partOf 14 = .ok (.aload_n 0, 1) := by decide +kernel
theorem dX8_partOf_15 : decode cX8_partOf 15 = .ok (.getfield 71, 3) := by decide +kernel
theorem dX8_partOf_18 : decode cX8_partOf 18 = .ok (.invokestatic 54, 3) := by decide +kernel
theorem dX8_partOf_21 : decode cX8_partOf 21 = .ok (.invokestatic 81, 3) := by decide +kernel
theorem dX8_partOf_24 : decode cX8_partOf 24 = .ok (.i2d, 1) := by decide +kernel
theorem dX8_partOf_25 : decode cX8_partOf 25 = .ok (.ddiv, 1) := by decide +kernel
theorem dX8_partOf_26 : decode cX8_partOf 26 = .ok (.goto 4, 3) := by decide +kernel
theorem dX8_partOf_29 : decode cX8_partOf 29 = .ok (.dconst 0, 1) := by decide +kernel
theorem dX8_partOf_30 : decode cX8_partOf 30 = .ok (.dreturn, 1) := by decide +kernel
set_option maxRecDepth 20000 in
theorem ggX8_add_X8_in : GoodIn wsX8_add wsX8_in := goodIn_r _ [5] (by decide +kernel) (by decide +kernel)
set_option maxRecDepth 20000 in
theorem gX8_add_X8_in : GoodIn wsX8_add (va_wsS RX8 93 yX8_in wsX8_in) := goodIn_app (goodIn_of _ (by decide +kernel)) ggX8_add_X8_in
set_option maxRecDepth 20000 in
theorem ggX8_add_X8_throwsAt : GoodIn wsX8_add wsX8_throwsAt := goodIn_r _ [9, 10, 18, 19, 20, 21, 22, 23, 24, 25, 26, 27, 28, 29, 30, 31] (by decide +kernel) (by decide +kernel)
set_option maxRecDepth 20000 in
theorem gX8_add_X8_throwsAt : GoodIn wsX8_add (wsV RX8 97 RX8 yX8_throwsAt wsX8_throwsAt) := goodIn_app (goodIn_of _ (by decide +kernel)) ggX8_add_X8_throwsAt
set_option maxRecDepth 20000 in
theorem ggX8_add_X8_saves : GoodIn wsX8_add wsX8_saves := goodIn_r _ [14, 15, 16, 17, 1, 18, 19, 20, 21, 22, 23, 24, 25, 26, 27, 28, 29, 30, 31] (by decide +kernel) (by decide +kernel)
set_option maxRecDepth 20000 in
theorem gX8_add_X8_saves : GoodIn wsX8_add (wsV RX8 100 RX8 yX8_saves wsX8_saves) := goodIn_app (goodIn_of _ (by decide +kernel)) ggX8_add_X8_saves
theorem dX8_add_0 : decode cX8_add 0 = .ok (.aload_n 0, 1) := by decide +kernel
theorem dX8_add_1 : decode cX8_add 1 = .ok (.iload_n 1, 1) := by decide +kernel
theorem dX8_add_2 : decode cX8_add 2 = .ok (.iconst 0, 1) := by decide +kernel
theorem dX8_add_3 : decode cX8_add 3 = .ok (.bipush 50, 2) := by decide +kernel
theorem dX8_add_5 : decode cX8_add 5 = .ok (.invokestatic 93, 3) := by decide +kernel
theorem dX8_add_8 : decode cX8_add 8 = .ok (.ifCond .ne 7, 3) := by decide +kernel
theorem dX8_add_11 : decode cX8_add 11 = .ok (.iconst 1, 1) := by decide +kernel
theorem dX8_add_12 : decode cX8_add 12 = .ok (.goto 19, 3) := by decide +kernel
theorem dX8_add_15 : decode cX8_add 15 = .ok (.aload_n 0, 1) := by decide +kernel
theorem dX8_add_16 : decode cX8_add 16 = .ok (.getfield 7, 3) := by decide +kernel
theorem dX8_add_19 : decode cX8_add 19 = .ok (.iconst 0, 1) := by decide +kernel
theorem dX8_add_20 : decode cX8_add 20 = .ok (.iaload, 1) := by decide +kernel
theorem dX8_add_21 : decode cX8_add 21 = .ok (.bipush 8, 2) := by decide +kernel
theorem dX8_add_23 : decode cX8_add 23 = .ok (.if_icmp .ne 7, 3) := by decide +kernel
theorem dX8_add_26 : decode cX8_add 26 = .ok (.iconst 2, 1) := by decide +kernel
theorem dX8_add_27 : decode cX8_add 27 = .ok (.goto 4, 3) := by decide +kernel
theorem dX8_add_30 : decode cX8_add 30 = .ok (.iconst 0, 1) := by decide +kernel
theorem dX8_add_31 : decode cX8_add 31 = .ok (.invokevirtual 97, 3) := by decide +kernel
theorem dX8_add_34 : decode cX8_add 34 = .ok (.ifCond .eq 5, 3) := by decide +kernel
theorem dX8_add_37 : decode cX8_add 37 = .ok (.iconst 0, 1) := by decide +kernel
theorem dX8_add_38 : decode cX8_add 38 = .ok (.ireturn, 1) := by decide +kernel
theorem dX8_add_39 : decode cX8_add 39 = .ok (.aload_n 0, 1) := by decide +kernel
theorem dX8_add_40 : decode cX8_add 40 = .ok (.invokevirtual 100, 3) := by decide +kernel
theorem dX8_add_43 : decode cX8_add 43 = .ok (.aload_n 0, 1) := by decide +kernel
theorem dX8_add_44 : decode cX8_add 44 = .ok (.getfield 7, 3) := by decide +kernel
theorem dX8_add_47 : decode cX8_add 47 = .ok (.iconst 0, 1) := by decide +kernel
theorem dX8_add_48 : decode cX8_add 48 = .ok (.iaload, 1) := by decide +kernel
theorem dX8_add_49 : decode cX8_add 49 = .ok (.istore_n 2, 1) := by decide +kernel
theorem dX8_add_50 : decode cX8_add 50 = .ok (.aload_n 0, 1) := by decide +kernel
theorem dX8_add_51 : decode cX8_add 51 = .ok (.getfield 7, 3) := by decide +kernel
theorem dX8_add_54 : decode cX8_add 54 = .ok (.iconst 3, 1) := by decide +kernel
theorem dX8_add_55 : decode cX8_add 55 = .ok (.iload_n 2, 1) := by decide +kernel
theorem dX8_add_56 : decode cX8_add 56 = .ok (.iadd, 1) := by decide +kernel
theorem dX8_add_57 : decode cX8_add 57 = .ok (.iload_n 1, 1) := by decide +kernel
theorem dX8_add_58 : decode cX8_add 58 = .ok (.iastore, 1) := by decide +kernel
theorem dX8_add_59 : decode cX8_add 59 = .ok (.aload_n 0, 1) := by decide +kernel
theorem dX8_add_60 : decode cX8_add 60 = .ok (.getfield 7, 3) := by decide +kernel
theorem dX8_add_63 : decode cX8_add 63 = .ok (.bipush 11, 2) := by decide +kernel
theorem dX8_add_65 : decode cX8_add 65 = .ok (.iload_n 2, 1) := by decide +kernel
theorem dX8_add_66 : decode cX8_add 66 = .ok (.iadd, 1) := by decide +kernel
theorem dX8_add_67 : decode cX8_add 67 = .ok (.iconst (-1), 1) := by decide +kernel
theorem dX8_add_68 : decode cX8_add 68 = .ok (.iastore, 1) := by decide +kernel
theorem dX8_add_69 : decode cX8_add 69 = .ok (.aload_n 0, 1) := by decide +kernel
theorem dX8_add_70 : decode cX8_add 70 = .ok (.getfield 7, 3) := by decide +kernel
theorem dX8_add_73 : decode cX8_add 73 = .ok (.iconst 0, 1) := by decide +kernel
theorem dX8_add_74 : decode cX8_add 74 = .ok (.dup2, 1) := by decide +kernel
theorem dX8_add_75 : decode cX8_add 75 = .ok (.iaload, 1) := by decide +kernel
theorem dX8_add_76 : decode cX8_add 76 = .ok (.iconst 1, 1) := by decide +kernel
theorem dX8_add_77 : decode cX8_add 77 = .ok (.iadd, 1) := by decide +kernel
theorem dX8_add_78 : decode cX8_add 78 = .ok (.iastore, 1) := by decide +kernel
theorem dX8_add_79 : decode cX8_add 79 = .ok (.iload_n 2, 1) := by decide +kernel
theorem dX8_add_80 : decode cX8_add 80 = .ok (.ireturn, 1) := by decide +kernel
set_option maxRecDepth 20000 in
theorem ggX8_setWeight_X8_isMember : GoodIn wsX8_setWeight wsX8_isMember := goodIn_r _ [6, 1, 22, 23, 24, 25, 26, 27, 28, 29, 30, 31, 32, 33, 34, 35] (by decide +kernel) (by decide +kernel)
set_option maxRecDepth 20000 in
theorem gX8_setWeight_X8_isMember : GoodIn wsX8_setWeight (wsV RX8 43 RX8 yX8_isMember wsX8_isMember) := goodIn_app (goodIn_of _ (by decide +kernel)) ggX8_setWeight_X8_isMember
set_option maxRecDepth 20000 in
theorem ggX8_setWeight_X8_in : GoodIn wsX8_setWeight wsX8_in := goodIn_r _ [9] (by decide +kernel) (by decide +kernel)
set_option maxRecDepth 20000 in
theorem gX8_setWeight_X8_in : GoodIn wsX8_setWeight (va_wsS RX8 93 yX8_in wsX8_in) := goodIn_app (goodIn_of _ (by decide +kernel)) ggX8_setWeight_X8_in
set_option maxRecDepth 20000 in
theorem ggX8_setWeight_X8_throwsAt : GoodIn wsX8_setWeight wsX8_throwsAt := goodIn_r _ [13, 14, 22, 23, 24, 25, 26, 27, 28, 29, 30, 31, 32, 33, 34, 35] (by decide +kernel) (by decide +kernel)
set_option maxRecDepth 20000 in
theorem gX8_setWeight_X8_throwsAt : GoodIn wsX8_setWeight (wsV RX8 97 RX8 yX8_throwsAt wsX8_throwsAt) := goodIn_app (goodIn_of _ (by decide +kernel)) ggX8_setWeight_X8_throwsAt
set_option maxRecDepth 20000 in
theorem ggX8_setWeight_X8_saves : GoodIn wsX8_setWeight wsX8_saves := goodIn_r _ [18, 19, 20, 21, 1, 22, 23, 24, 25, 26, 27, 28, 29, 30, 31, 32, 33, 34, 35] (by decide +kernel) (by decide +kernel)
set_option maxRecDepth 20000 in
theorem gX8_setWeight_X8_saves : GoodIn wsX8_setWeight (wsV RX8 100 RX8 yX8_saves wsX8_saves) := goodIn_app (goodIn_of _ (by decide +kernel)) ggX8_setWeight_X8_saves
theorem dX8_setWeight_0 : decode cX8_setWeight 0 = .ok (.aload_n 0, 1) := by decide +kernel
theorem dX8_setWeight_1 : decode cX8_setWeight 1 = .ok (.aload_n 0, 1) := by decide +kernel
theorem dX8_setWeight_2 : decode cX8_setWeight 2 = .ok (.iload_n 1, 1) := by decide +kernel
theorem dX8_setWeight_3 : decode cX8_setWeight 3 = .ok (.invokevirtual 43, 3) := by decide +kernel
theorem dX8_setWeight_6 : decode cX8_setWeight 6 = .ok (.ifCond .ne 7, 3) := by decide +kernel
theorem dX8_setWeight_9 : decode cX8_setWeight 9 = .ok (.iconst 1, 1) := by decide +kernel
theorem dX8_setWeight_10 : decode cX8_setWeight 10 = .ok (.goto 18, 3) := by decide +kernel
theorem dX8_setWeight_13 : decode cX8_setWeight 13 = .ok (.iload_n 2, 1) := by decide +kernel
theorem dX8_setWeight_14 : decode cX8_setWeight 14 = .ok (.iconst 0, 1) := by decide +kernel
theorem dX8_setWeight_15 : decode cX8_setWeight 15 = .ok (.bipush 50, 2) := by decide +kernel
theorem dX8_setWeight_17 : decode cX8_setWeight 17 = .ok (.invokestatic 93, 3) := by decide +kernel
theorem dX8_setWeight_20 : decode cX8_setWeight 20 = .ok (.ifCond .eq 7, 3) := by decide +kernel
theorem dX8_setWeight_23 : decode cX8_setWeight 23 = .ok (.iconst 0, 1) := by decide +kernel
theorem dX8_setWeight_24 : decode cX8_setWeight 24 = .ok (.goto 4, 3) := by decide +kernel
theorem dX8_setWeight_27 : decode cX8_setWeight 27 = .ok (.iconst 2, 1) := by decide +kernel
theorem dX8_setWeight_28 : decode cX8_setWeight 28 = .ok (.invokevirtual 97, 3) := by decide +kernel
theorem dX8_setWeight_31 : decode cX8_setWeight 31 = .ok (.ifCond .eq 5, 3) := by decide +kernel
theorem dX8_setWeight_34 : decode cX8_setWeight 34 = .ok (.iconst 0, 1) := by decide +kernel
theorem dX8_setWeight_35 : decode cX8_setWeight 35 = .ok (.ireturn, 1) := by decide +kernel
theorem dX8_setWeight_36 : decode cX8_setWeight 36 = .ok (.aload_n 0, 1) := by decide +kernel
theorem dX8_setWeight_37 : decode cX8_setWeight 37 = .ok (.invokevirtual 100, 3) := by decide +kernel
theorem dX8_setWeight_40 : decode cX8_setWeight 40 = .ok (.aload_n 0, 1) := by decide +kernel
theorem dX8_setWeight_41 : decode cX8_setWeight 41 = .ok (.getfield 7, 3) := by decide +kernel
theorem dX8_setWeight_44 : decode cX8_setWeight 44 = .ok (.iconst 3, 1) := by decide +kernel
theorem dX8_setWeight_45 : decode cX8_setWeight 45 = .ok (.iload_n 1, 1) := by decide +kernel
theorem dX8_setWeight_46 : decode cX8_setWeight 46 = .ok (.iadd, 1) := by decide +kernel
theorem dX8_setWeight_47 : decode cX8_setWeight 47 = .ok (.iaload, 1) := by decide +kernel
theorem dX8_setWeight_48 : decode cX8_setWeight 48 = .ok (.istore_n 3, 1) := by decide +kernel
theorem dX8_setWeight_49 : decode cX8_setWeight 49 = .ok (.aload_n 0, 1) := by decide +kernel
theorem dX8_setWeight_50 : decode cX8_setWeight 50 = .ok (.getfield 7, 3) := by decide +kernel
theorem dX8_setWeight_53 : decode cX8_setWeight 53 = .ok (.iconst 3, 1) := by decide +kernel
theorem dX8_setWeight_54 : decode cX8_setWeight 54 = .ok (.iload_n 1, 1) := by decide +kernel
theorem dX8_setWeight_55 : decode cX8_setWeight 55 = .ok (.iadd, 1) := by decide +kernel
theorem dX8_setWeight_56 : decode cX8_setWeight 56 = .ok (.iload_n 2, 1) := by decide +kernel
theorem dX8_setWeight_57 : decode cX8_setWeight 57 = .ok (.iastore, 1) := by decide +kernel
theorem dX8_setWeight_58 : decode cX8_setWeight 58 = .ok (.iload_n 3, 1) := by decide +kernel
theorem dX8_setWeight_59 : decode cX8_setWeight 59 = .ok (.ireturn, 1) := by decide +kernel
set_option maxRecDepth 20000 in
theorem ggX8_setQuota_X8_in : GoodIn wsX8_setQuota wsX8_in := goodIn_r _ [5] (by decide +kernel) (by decide +kernel)
set_option maxRecDepth 20000 in
theorem gX8_setQuota_X8_in : GoodIn wsX8_setQuota (va_wsS RX8 93 yX8_in wsX8_in) := goodIn_app (goodIn_of _ (by decide +kernel)) ggX8_setQuota_X8_in
set_option maxRecDepth 20000 in
theorem ggX8_setQuota_X8_throwsAt : GoodIn wsX8_setQuota wsX8_throwsAt := goodIn_r _ [9, 10, 18, 19, 20, 21, 22, 23, 24, 25, 26, 27, 28, 29, 30, 31] (by decide +kernel) (by decide +kernel)
set_option maxRecDepth 20000 in
theorem gX8_setQuota_X8_throwsAt : GoodIn wsX8_setQuota (wsV RX8 97 RX8 yX8_throwsAt wsX8_throwsAt) := goodIn_app (goodIn_of _ (by decide +kernel)) ggX8_setQuota_X8_throwsAt
set_option maxRecDepth 20000 in
theorem ggX8_setQuota_X8_saves : GoodIn wsX8_setQuota wsX8_saves := goodIn_r _ [14, 15, 16, 17, 1, 18, 19, 20, 21, 22, 23, 24, 25, 26, 27, 28, 29, 30, 31] (by decide +kernel) (by decide +kernel)
set_option maxRecDepth 20000 in
theorem gX8_setQuota_X8_saves : GoodIn wsX8_setQuota (wsV RX8 100 RX8 yX8_saves wsX8_saves) := goodIn_app (goodIn_of _ (by decide +kernel)) ggX8_setQuota_X8_saves
theorem dX8_setQuota_0 : decode cX8_setQuota 0 = .ok (.aload_n 0, 1) := by decide +kernel
theorem dX8_setQuota_1 : decode cX8_setQuota 1 = .ok (.iload_n 1, 1) := by decide +kernel
theorem dX8_setQuota_2 : decode cX8_setQuota 2 = .ok (.iconst 1, 1) := by decide +kernel
theorem dX8_setQuota_3 : decode cX8_setQuota 3 = .ok (.sipush 400, 3) := by decide +kernel
theorem dX8_setQuota_6 : decode cX8_setQuota 6 = .ok (.invokestatic 93, 3) := by decide +kernel
theorem dX8_setQuota_9 : decode cX8_setQuota 9 = .ok (.ifCond .eq 7, 3) := by decide +kernel
theorem dX8_setQuota_12 : decode cX8_setQuota 12 = .ok (.iconst 0, 1) := by decide +kernel
theorem dX8_setQuota_13 : decode cX8_setQuota 13 = .ok (.goto 4, 3) := by decide +kernel
theorem dX8_setQuota_16 : decode cX8_setQuota 16 = .ok (.iconst 1, 1) := by decide +kernel
theorem dX8_setQuota_17 : decode cX8_setQuota 17 = .ok (.invokevirtual 97, 3) := by decide +kernel
theorem dX8_setQuota_20 : decode cX8_setQuota 20 = .ok (.ifCond .eq 5, 3) := by decide +kernel
theorem dX8_setQuota_23 : decode cX8_setQuota 23 = .ok (.iconst 0, 1) := by decide +kernel
theorem dX8_setQuota_24 : decode cX8_setQuota 24 = .ok (.ireturn, 1) := by decide +kernel
theorem dX8_setQuota_25 : decode cX8_setQuota 25 = .ok (.aload_n 0, 1) := by decide +kernel
theorem dX8_setQuota_26 : decode cX8_setQuota 26 = .ok (.invokevirtual 100, 3) := by decide +kernel
theorem dX8_setQuota_29 : decode cX8_setQuota 29 = .ok (.aload_n 0, 1) := by decide +kernel
theorem dX8_setQuota_30 : decode cX8_setQuota 30 = .ok (.getfield 7, 3) := by decide +kernel
theorem dX8_setQuota_33 : decode cX8_setQuota 33 = .ok (.iconst 1, 1) := by decide +kernel
theorem dX8_setQuota_34 : decode cX8_setQuota 34 = .ok (.iaload, 1) := by decide +kernel
theorem dX8_setQuota_35 : decode cX8_setQuota 35 = .ok (.istore_n 2, 1) := by decide +kernel
theorem dX8_setQuota_36 : decode cX8_setQuota 36 = .ok (.aload_n 0, 1) := by decide +kernel
theorem dX8_setQuota_37 : decode cX8_setQuota 37 = .ok (.getfield 7, 3) := by decide +kernel
theorem dX8_setQuota_40 : decode cX8_setQuota 40 = .ok (.iconst 1, 1) := by decide +kernel
theorem dX8_setQuota_41 : decode cX8_setQuota 41 = .ok (.iload_n 1, 1) := by decide +kernel
theorem dX8_setQuota_42 : decode cX8_setQuota 42 = .ok (.iastore, 1) := by decide +kernel
theorem dX8_setQuota_43 : decode cX8_setQuota 43 = .ok (.iload_n 2, 1) := by decide +kernel
theorem dX8_setQuota_44 : decode cX8_setQuota 44 = .ok (.ireturn, 1) := by decide +kernel
theorem dX8_followers_0 : decode cX8_followers 0 = .ok (.iconst 0, 1) := by decide +kernel
theorem dX8_followers_1 : decode cX8_followers 1 = .ok (.istore_n 2, 1) := by decide +kernel
theorem dX8_followers_2 : decode cX8_followers 2 = .ok (.iconst 0, 1) := by decide +kernel
theorem dX8_followers_3 : decode cX8_followers 3 = .ok (.istore_n 3, 1) := by decide +kernel
theorem dX8_followers_4 : decode cX8_followers 4 = .ok (.iload_n 3, 1) := by decide +kernel
theorem dX8_followers_5 : decode cX8_followers 5 = .ok (.aload_n 0, 1) := by decide +kernel
theorem dX8_followers_6 : decode cX8_followers 6 = .ok (.getfield 7, 3) := by decide +kernel
theorem dX8_followers_9 : decode cX8_followers 9 = .ok (.iconst 0, 1) := by decide +kernel
theorem dX8_followers_10 : decode cX8_followers 10 = .ok (.iaload, 1) := by decide +kernel
theorem dX8_followers_11 : decode cX8_followers 11 = .ok (.if_icmp .ge 30, 3) := by decide +kernel
theorem dX8_followers_14 : decode cX8_followers 14 = .ok (.iload_n 2, 1) := by decide +kernel
theorem dX8_followers_15 : decode cX8_followers 15 = .ok (.aload_n 0, 1) := by decide +kernel
theorem dX8_followers_16 : decode cX8_followers 16 = .ok (.getfield 7, 3) := by decide +kernel
theorem dX8_followers_19 : decode cX8_followers 19 = .ok (.bipush 11, 2) := by decide +kernel
theorem dX8_followers_21 : decode cX8_followers 21 = .ok (.iload_n 3, 1) := by decide +kernel
theorem dX8_followers_22 : decode cX8_followers 22 = .ok (.iadd, 1) := by decide +kernel
theorem dX8_followers_23 : decode cX8_followers 23 = .ok (.iaload, 1) := by decide +kernel
theorem dX8_followers_24 : decode cX8_followers 24 = .ok (.iload_n 1, 1) := by decide +kernel
theorem dX8_followers_25 : decode cX8_followers 25 = .ok (.if_icmp .ne 7, 3) := by decide +kernel
theorem dX8_followers_28 : decode cX8_followers 28 = .ok (.iconst 1, 1) := by decide +kernel
theorem dX8_followers_29 : decode cX8_followers 29 = .ok (.goto 4, 3) := by decide +kernel
theorem dX8_followers_32 : decode cX8_followers 32 = .ok (.iconst 0, 1) := by decide +kernel
theorem dX8_followers_33 : decode cX8_followers 33 = .ok (.iadd, 1) := by decide +kernel
theorem dX8_followers_34 : decode cX8_followers 34 = .ok (.istore_n 2, 1) := by decide +kernel
theorem dX8_followers_35 : decode cX8_followers 35 = .ok (.iinc 3 1, 3) := by decide +kernel
theorem dX8_followers_38 : decode cX8_followers 38 = .ok (.goto (-34), 3) := by decide +kernel
theorem dX8_followers_41 : decode cX8_followers 41 = .ok (.iload_n 2, 1) := by decide +kernel
theorem dX8_followers_42 : decode cX8_followers 42 = .ok (.ireturn, 1) := by decide +kernel
set_option maxRecDepth 20000 in
theorem ggX8_blocOf_X8_isPlayer : GoodIn wsX8_blocOf wsX8_isPlayer := goodIn_r _ [5, 6, 7, 8, 9, 4, 10, 22, 23, 24, 25, 26, 27, 28, 29, 30, 31, 32, 33, 34, 35] (by decide +kernel) (by decide +kernel)
set_option maxRecDepth 20000 in
theorem gX8_blocOf_X8_isPlayer : GoodIn wsX8_blocOf (wsV RX8 47 RX8 yX8_isPlayer wsX8_isPlayer) := goodIn_app (goodIn_of _ (by decide +kernel)) ggX8_blocOf_X8_isPlayer
set_option maxRecDepth 20000 in
theorem ggX8_blocOf_X8_yes : GoodIn wsX8_blocOf wsX8_yes := goodIn_r _ [14, 6, 15, 16, 4, 17, 22, 23, 24, 25, 26, 27, 28, 29, 30, 31, 32, 33, 34, 35] (by decide +kernel) (by decide +kernel)
set_option maxRecDepth 20000 in
theorem gX8_blocOf_X8_yes : GoodIn wsX8_blocOf (wsV RX8 58 RX8 yX8_yes wsX8_yes) := goodIn_app (goodIn_of _ (by decide +kernel)) ggX8_blocOf_X8_yes
set_option maxRecDepth 20000 in
theorem ggX8_blocOf_X8_weightOf : GoodIn wsX8_blocOf wsX8_weightOf := goodIn_r _ [21, 6, 15, 16, 4, 17, 22, 23, 24, 25, 26, 27, 28, 29, 30, 31, 32, 33, 34, 35] (by decide +kernel) (by decide +kernel)
set_option maxRecDepth 20000 in
theorem gX8_blocOf_X8_weightOf : GoodIn wsX8_blocOf (wsV RX8 61 RX8 yX8_weightOf wsX8_weightOf) := goodIn_app (goodIn_of _ (by decide +kernel)) ggX8_blocOf_X8_weightOf
theorem dX8_blocOf_0 : decode cX8_blocOf 0 = .ok (.aload_n 0, 1) := by decide +kernel
theorem dX8_blocOf_1 : decode cX8_blocOf 1 = .ok (.iload_n 1, 1) := by decide +kernel
theorem dX8_blocOf_2 : decode cX8_blocOf 2 = .ok (.invokevirtual 47, 3) := by decide +kernel
theorem dX8_blocOf_5 : decode cX8_blocOf 5 = .ok (.ifCond .eq 17, 3) := by decide +kernel
theorem dX8_blocOf_8 : decode cX8_blocOf 8 = .ok (.aload_n 0, 1) := by decide +kernel
theorem dX8_blocOf_9 : decode cX8_blocOf 9 = .ok (.aload_n 0, 1) := by decide +kernel
theorem dX8_blocOf_10 : decode cX8_blocOf 10 = .ok (.iconst 1, 1) := by decide +kernel
theorem dX8_blocOf_11 : decode cX8_blocOf 11 = .ok (.iload_n 1, 1) := by decide +kernel
theorem dX8_blocOf_12 : decode cX8_blocOf 12 = .ok (.ishl, 1) := by decide +kernel
theorem dX8_blocOf_13 : decode cX8_blocOf 13 = .ok (.invokevirtual 58, 3) := by decide +kernel
theorem dX8_blocOf_16 : decode cX8_blocOf 16 = .ok (.invokevirtual 61, 3) := by decide +kernel
theorem dX8_blocOf_19 : decode cX8_blocOf 19 = .ok (.goto 4, 3) := by decide +kernel
theorem dX8_blocOf_22 : decode cX8_blocOf 22 = .ok (.iconst 0, 1) := by decide +kernel
theorem dX8_blocOf_23 : decode cX8_blocOf 23 = .ok (.ireturn, 1) := by decide +kernel
set_option maxRecDepth 20000 in
theorem ggX8_follow_X8_isMember : GoodIn wsX8_follow wsX8_isMember := goodIn_r _ [6, 1, 42, 43, 44, 45, 46, 47, 48, 49, 50, 51, 52, 53, 54, 55] (by decide +kernel) (by decide +kernel)
set_option maxRecDepth 20000 in
theorem gX8_follow_X8_isMember : GoodIn wsX8_follow (wsV RX8 43 RX8 yX8_isMember wsX8_isMember) := goodIn_app (goodIn_of _ (by decide +kernel)) ggX8_follow_X8_isMember
set_option maxRecDepth 20000 in
theorem ggX8_follow_X8_isPlayer : GoodIn wsX8_follow wsX8_isPlayer := goodIn_r _ [10, 1, 2, 3, 4, 5, 6, 42, 43, 44, 45, 46, 47, 48, 49, 50, 51, 52, 53, 54, 55] (by decide +kernel) (by decide +kernel)
set_option maxRecDepth 20000 in
theorem gX8_follow_X8_isPlayer : GoodIn wsX8_follow (wsV RX8 47 RX8 yX8_isPlayer wsX8_isPlayer) := goodIn_app (goodIn_of _ (by decide +kernel)) ggX8_follow_X8_isPlayer
set_option maxRecDepth 20000 in
theorem ggX8_follow_X8_followers : GoodIn wsX8_follow wsX8_followers := goodIn_r _ [14, 1, 42, 43, 44, 45, 46, 47, 48, 49, 50, 51, 52, 53, 54, 55] (by decide +kernel) (by decide +kernel)
set_option maxRecDepth 20000 in
theorem gX8_follow_X8_followers : GoodIn wsX8_follow (wsV RX8 103 RX8 yX8_followers wsX8_followers) := goodIn_app (goodIn_of _ (by decide +kernel)) ggX8_follow_X8_followers
set_option maxRecDepth 20000 in
theorem ggX8_follow_X8_throwsAt : GoodIn wsX8_follow wsX8_throwsAt := goodIn_r _ [18, 19, 42, 43, 44, 45, 46, 47, 48, 49, 50, 51, 52, 53, 54, 55] (by decide +kernel) (by decide +kernel)
set_option maxRecDepth 20000 in
theorem gX8_follow_X8_throwsAt : GoodIn wsX8_follow (wsV RX8 97 RX8 yX8_throwsAt wsX8_throwsAt) := goodIn_app (goodIn_of _ (by decide +kernel)) ggX8_follow_X8_throwsAt
set_option maxRecDepth 20000 in
theorem ggX8_follow_X8_saves : GoodIn wsX8_follow wsX8_saves := goodIn_r _ [23, 24, 25, 26, 1, 42, 43, 44, 45, 46, 47, 48, 49, 50, 51, 52, 53, 54, 55] (by decide +kernel) (by decide +kernel)
set_option maxRecDepth 20000 in
theorem gX8_follow_X8_saves : GoodIn wsX8_follow (wsV RX8 100 RX8 yX8_saves wsX8_saves) := goodIn_app (goodIn_of _ (by decide +kernel)) ggX8_follow_X8_saves
set_option maxRecDepth 20000 in
theorem ggX8_follow_X8_blocOf : GoodIn wsX8_follow wsX8_blocOf := goodIn_r _ [30, 7, 8, 9, 5, 10, 1, 2, 3, 4, 6, 31, 32, 33, 34, 35, 36, 37, 38, 39, 40, 41, 42, 43, 44, 45, 46, 47, 48, 49, 50, 51, 52, 53, 54, 55] (by decide +kernel) (by decide +kernel)
set_option maxRecDepth 20000 in
theorem gX8_follow_X8_blocOf : GoodIn wsX8_follow (wsV RX8 106 RX8 yX8_blocOf wsX8_blocOf) := goodIn_app (goodIn_of _ (by decide +kernel)) ggX8_follow_X8_blocOf
theorem dX8_follow_0 : decode cX8_follow 0 = .ok (.aload_n 0, 1) := by decide +kernel
theorem dX8_follow_1 : decode cX8_follow 1 = .ok (.iload_n 1, 1) := by decide +kernel
theorem dX8_follow_2 : decode cX8_follow 2 = .ok (.invokevirtual 43, 3) := by decide +kernel
theorem dX8_follow_5 : decode cX8_follow 5 = .ok (.ifCond .eq 15, 3) := by decide +kernel
theorem dX8_follow_8 : decode cX8_follow 8 = .ok (.aload_n 0, 1) := by decide +kernel
theorem dX8_follow_9 : decode cX8_follow 9 = .ok (.iload_n 2, 1) := by decide +kernel
theorem dX8_follow_10 : decode cX8_follow 10 = .ok (.invokevirtual 43, 3) := by decide +kernel
theorem dX8_follow_13 : decode cX8_follow 13 = .ok (.ifCond .eq 7, 3) := by decide +kernel
theorem dX8_follow_16 : decode cX8_follow 16 = .ok (.iconst 1, 1) := by decide +kernel
theorem dX8_follow_17 : decode cX8_follow 17 = .ok (.goto 4, 3) := by decide +kernel
theorem dX8_follow_20 : decode cX8_follow 20 = .ok (.iconst 0, 1) := by decide +kernel
theorem dX8_follow_21 : decode cX8_follow 21 = .ok (.istore_n 3, 1) := by decide +kernel
theorem dX8_follow_22 : decode cX8_follow 22 = .ok (.aload_n 0, 1) := by decide +kernel
theorem dX8_follow_23 : decode cX8_follow 23 = .ok (.iload_n 3, 1) := by decide +kernel
theorem dX8_follow_24 : decode cX8_follow 24 = .ok (.ifCond .ne 7, 3) := by decide +kernel
theorem dX8_follow_27 : decode cX8_follow 27 = .ok (.iconst 1, 1) := by decide +kernel
theorem dX8_follow_28 : decode cX8_follow 28 = .ok (.goto 41, 3) := by decide +kernel
theorem dX8_follow_31 : decode cX8_follow 31 = .ok (.iload_n 1, 1) := by decide +kernel
theorem dX8_follow_32 : decode cX8_follow 32 = .ok (.iload_n 2, 1) := by decide +kernel
theorem dX8_follow_33 : decode cX8_follow 33 = .ok (.if_icmp .ne 7, 3) := by decide +kernel
theorem dX8_follow_36 : decode cX8_follow 36 = .ok (.iconst 2, 1) := by decide +kernel
theorem dX8_follow_37 : decode cX8_follow 37 = .ok (.goto 32, 3) := by decide +kernel
theorem dX8_follow_40 : decode cX8_follow 40 = .ok (.aload_n 0, 1) := by decide +kernel
theorem dX8_follow_41 : decode cX8_follow 41 = .ok (.iload_n 1, 1) := by decide +kernel
theorem dX8_follow_42 : decode cX8_follow 42 = .ok (.invokevirtual 47, 3) := by decide +kernel
theorem dX8_follow_45 : decode cX8_follow 45 = .ok (.ifCond .eq 19, 3) := by decide +kernel
theorem dX8_follow_48 : decode cX8_follow 48 = .ok (.aload_n 0, 1) := by decide +kernel
theorem dX8_follow_49 : decode cX8_follow 49 = .ok (.iload_n 1, 1) := by decide +kernel
theorem dX8_follow_50 : decode cX8_follow 50 = .ok (.invokevirtual 103, 3) := by decide +kernel
theorem dX8_follow_53 : decode cX8_follow 53 = .ok (.ifCond .gt 11, 3) := by decide +kernel
theorem dX8_follow_56 : decode cX8_follow 56 = .ok (.aload_n 0, 1) := by decide +kernel
theorem dX8_follow_57 : decode cX8_follow 57 = .ok (.iload_n 2, 1) := by decide +kernel
theorem dX8_follow_58 : decode cX8_follow 58 = .ok (.invokevirtual 47, 3) := by decide +kernel
theorem dX8_follow_61 : decode cX8_follow 61 = .ok (.ifCond .ne 7, 3) := by decide +kernel
theorem dX8_follow_64 : decode cX8_follow 64 = .ok (.iconst 3, 1) := by decide +kernel
theorem dX8_follow_65 : decode cX8_follow 65 = .ok (.goto 4, 3) := by decide +kernel
theorem dX8_follow_68 : decode cX8_follow 68 = .ok (.iconst 0, 1) := by decide +kernel
theorem dX8_follow_69 : decode cX8_follow 69 = .ok (.invokevirtual 97, 3) := by decide +kernel
theorem dX8_follow_72 : decode cX8_follow 72 = .ok (.ifCond .eq 5, 3) := by decide +kernel
theorem dX8_follow_75 : decode cX8_follow 75 = .ok (.iconst 0, 1) := by decide +kernel
theorem dX8_follow_76 : decode cX8_follow 76 = .ok (.ireturn, 1) := by decide +kernel
theorem dX8_follow_77 : decode cX8_follow 77 = .ok (.aload_n 0, 1) := by decide +kernel
theorem dX8_follow_78 : decode cX8_follow 78 = .ok (.invokevirtual 100, 3) := by decide +kernel
theorem dX8_follow_81 : decode cX8_follow 81 = .ok (.aload_n 0, 1) := by decide +kernel
theorem dX8_follow_82 : decode cX8_follow 82 = .ok (.getfield 7, 3) := by decide +kernel
theorem dX8_follow_85 : decode cX8_follow 85 = .ok (.bipush 11, 2) := by decide +kernel
theorem dX8_follow_87 : decode cX8_follow 87 = .ok (.iload_n 1, 1) := by decide +kernel
theorem dX8_follow_88 : decode cX8_follow 88 = .ok (.iadd, 1) := by decide +kernel
theorem dX8_follow_89 : decode cX8_follow 89 = .ok (.iload_n 2, 1) := by decide +kernel
theorem dX8_follow_90 : decode cX8_follow 90 = .ok (.iastore, 1) := by decide +kernel
theorem dX8_follow_91 : decode cX8_follow 91 = .ok (.aload_n 0, 1) := by decide +kernel
theorem dX8_follow_92 : decode cX8_follow 92 = .ok (.iload_n 2, 1) := by decide +kernel
theorem dX8_follow_93 : decode cX8_follow 93 = .ok (.invokevirtual 106, 3) := by decide +kernel
theorem dX8_follow_96 : decode cX8_follow 96 = .ok (.ireturn, 1) := by decide +kernel
set_option maxRecDepth 20000 in
theorem ggX8_leave_X8_isMember : GoodIn wsX8_leave wsX8_isMember := goodIn_r _ [6, 1, 23, 24, 25, 26, 27, 28, 29, 30, 31, 32, 33, 34, 35, 36] (by decide +kernel) (by decide +kernel)
set_option maxRecDepth 20000 in
theorem gX8_leave_X8_isMember : GoodIn wsX8_leave (wsV RX8 43 RX8 yX8_isMember wsX8_isMember) := goodIn_app (goodIn_of _ (by decide +kernel)) ggX8_leave_X8_isMember
set_option maxRecDepth 20000 in
theorem ggX8_leave_X8_isPlayer : GoodIn wsX8_leave wsX8_isPlayer := goodIn_r _ [10, 1, 2, 3, 4, 5, 6, 23, 24, 25, 26, 27, 28, 29, 30, 31, 32, 33, 34, 35, 36] (by decide +kernel) (by decide +kernel)
set_option maxRecDepth 20000 in
theorem gX8_leave_X8_isPlayer : GoodIn wsX8_leave (wsV RX8 47 RX8 yX8_isPlayer wsX8_isPlayer) := goodIn_app (goodIn_of _ (by decide +kernel)) ggX8_leave_X8_isPlayer
set_option maxRecDepth 20000 in
theorem ggX8_leave_X8_throwsAt : GoodIn wsX8_leave wsX8_throwsAt := goodIn_r _ [14, 15, 23, 24, 25, 26, 27, 28, 29, 30, 31, 32, 33, 34, 35, 36] (by decide +kernel) (by decide +kernel)
set_option maxRecDepth 20000 in
theorem gX8_leave_X8_throwsAt : GoodIn wsX8_leave (wsV RX8 97 RX8 yX8_throwsAt wsX8_throwsAt) := goodIn_app (goodIn_of _ (by decide +kernel)) ggX8_leave_X8_throwsAt
set_option maxRecDepth 20000 in
theorem ggX8_leave_X8_saves : GoodIn wsX8_leave wsX8_saves := goodIn_r _ [19, 20, 21, 22, 1, 23, 24, 25, 26, 27, 28, 29, 30, 31, 32, 33, 34, 35, 36] (by decide +kernel) (by decide +kernel)
set_option maxRecDepth 20000 in
theorem gX8_leave_X8_saves : GoodIn wsX8_leave (wsV RX8 100 RX8 yX8_saves wsX8_saves) := goodIn_app (goodIn_of _ (by decide +kernel)) ggX8_leave_X8_saves
theorem dX8_leave_0 : decode cX8_leave 0 = .ok (.aload_n 0, 1) := by decide +kernel
theorem dX8_leave_1 : decode cX8_leave 1 = .ok (.aload_n 0, 1) := by decide +kernel
theorem dX8_leave_2 : decode cX8_leave 2 = .ok (.iload_n 1, 1) := by decide +kernel
theorem dX8_leave_3 : decode cX8_leave 3 = .ok (.invokevirtual 43, 3) := by decide +kernel
theorem dX8_leave_6 : decode cX8_leave 6 = .ok (.ifCond .ne 7, 3) := by decide +kernel
theorem dX8_leave_9 : decode cX8_leave 9 = .ok (.iconst 1, 1) := by decide +kernel
theorem dX8_leave_10 : decode cX8_leave 10 = .ok (.goto 16, 3) := by decide +kernel
theorem dX8_leave_13 : decode cX8_leave 13 = .ok (.aload_n 0, 1) := by decide +kernel
theorem dX8_leave_14 : decode cX8_leave 14 = .ok (.iload_n 1, 1) := by decide +kernel
theorem dX8_leave_15 : decode cX8_leave 15 = .ok (.invokevirtual 47, 3) := by decide +kernel
theorem dX8_leave_18 : decode cX8_leave 18 = .ok (.ifCond .eq 7, 3) := by decide +kernel
theorem dX8_leave_21 : decode cX8_leave 21 = .ok (.iconst 2, 1) := by decide +kernel
theorem dX8_leave_22 : decode cX8_leave 22 = .ok (.goto 4, 3) := by decide +kernel
theorem dX8_leave_25 : decode cX8_leave 25 = .ok (.iconst 0, 1) := by decide +kernel
theorem dX8_leave_26 : decode cX8_leave 26 = .ok (.invokevirtual 97, 3) := by decide +kernel
theorem dX8_leave_29 : decode cX8_leave 29 = .ok (.ifCond .eq 5, 3) := by decide +kernel
theorem dX8_leave_32 : decode cX8_leave 32 = .ok (.iconst 0, 1) := by decide +kernel
theorem dX8_leave_33 : decode cX8_leave 33 = .ok (.ireturn, 1) := by decide +kernel
theorem dX8_leave_34 : decode cX8_leave 34 = .ok (.aload_n 0, 1) := by decide +kernel
theorem dX8_leave_35 : decode cX8_leave 35 = .ok (.invokevirtual 100, 3) := by decide +kernel
theorem dX8_leave_38 : decode cX8_leave 38 = .ok (.aload_n 0, 1) := by decide +kernel
theorem dX8_leave_39 : decode cX8_leave 39 = .ok (.getfield 7, 3) := by decide +kernel
theorem dX8_leave_42 : decode cX8_leave 42 = .ok (.bipush 11, 2) := by decide +kernel
theorem dX8_leave_44 : decode cX8_leave 44 = .ok (.iload_n 1, 1) := by decide +kernel
theorem dX8_leave_45 : decode cX8_leave 45 = .ok (.iadd, 1) := by decide +kernel
theorem dX8_leave_46 : decode cX8_leave 46 = .ok (.iaload, 1) := by decide +kernel
theorem dX8_leave_47 : decode cX8_leave 47 = .ok (.istore_n 2, 1) := by decide +kernel
theorem dX8_leave_48 : decode cX8_leave 48 = .ok (.aload_n 0, 1) := by decide +kernel
theorem dX8_leave_49 : decode cX8_leave 49 = .ok (.getfield 7, 3) := by decide +kernel
theorem dX8_leave_52 : decode cX8_leave 52 = .ok (.bipush 11, 2) := by decide +kernel
theorem dX8_leave_54 : decode cX8_leave 54 = .ok (.iload_n 1, 1) := by decide +kernel
theorem dX8_leave_55 : decode cX8_leave 55 = .ok (.iadd, 1) := by decide +kernel
theorem dX8_leave_56 : decode cX8_leave 56 = .ok (.iconst (-1), 1) := by decide +kernel
theorem dX8_leave_57 : decode cX8_leave 57 = .ok (.iastore, 1) := by decide +kernel
theorem dX8_leave_58 : decode cX8_leave 58 = .ok (.iload_n 2, 1) := by decide +kernel
theorem dX8_leave_59 : decode cX8_leave 59 = .ok (.ireturn, 1) := by decide +kernel
set_option maxRecDepth 20000 in
theorem ggX8_isValue_X8_in : GoodIn wsX8_isValue wsX8_in := goodIn_r _ [4] (by decide +kernel) (by decide +kernel)
set_option maxRecDepth 20000 in
theorem gX8_isValue_X8_in : GoodIn wsX8_isValue (va_wsS RX8 93 yX8_in wsX8_in) := goodIn_app (goodIn_of _ (by decide +kernel)) ggX8_isValue_X8_in
theorem dX8_isValue_0 : decode cX8_isValue 0 = .ok (.iload_n 0, 1) := by decide +kernel
theorem dX8_isValue_1 : decode cX8_isValue 1 = .ok (.ifCond .ne 13, 3) := by decide +kernel
theorem dX8_isValue_4 : decode cX8_isValue 4 = .ok (.iload_n 1, 1) := by decide +kernel
theorem dX8_isValue_5 : decode cX8_isValue 5 = .ok (.iconst 1, 1) := by decide +kernel
theorem dX8_isValue_6 : decode cX8_isValue 6 = .ok (.bipush 8, 2) := by decide +kernel
theorem dX8_isValue_8 : decode cX8_isValue 8 = .ok (.invokestatic 93, 3) := by decide +kernel
theorem dX8_isValue_11 : decode cX8_isValue 11 = .ok (.goto 26, 3) := by decide +kernel
theorem dX8_isValue_14 : decode cX8_isValue 14 = .ok (.iload_n 0, 1) := by decide +kernel
theorem dX8_isValue_15 : decode cX8_isValue 15 = .ok (.iconst 1, 1) := by decide +kernel
theorem dX8_isValue_16 : decode cX8_isValue 16 = .ok (.if_icmp .ne 13, 3) := by decide +kernel
theorem dX8_isValue_19 : decode cX8_isValue 19 = .ok (.iload_n 1, 1) := by decide +kernel
theorem dX8_isValue_20 : decode cX8_isValue 20 = .ok (.iconst 0, 1) := by decide +kernel
theorem dX8_isValue_21 : decode cX8_isValue 21 = .ok (.bipush 7, 2) := by decide +kernel
theorem dX8_isValue_23 : decode cX8_isValue 23 = .ok (.invokestatic 93, 3) := by decide +kernel
theorem dX8_isValue_26 : decode cX8_isValue 26 = .ok (.goto 11, 3) := by decide +kernel
theorem dX8_isValue_29 : decode cX8_isValue 29 = .ok (.iload_n 1, 1) := by decide +kernel
theorem dX8_isValue_30 : decode cX8_isValue 30 = .ok (.iconst 1, 1) := by decide +kernel
