set_option maxRecDepth 20000 in
theorem ggX2_init_X4_init : GoodIn wsX2_init wsX4_init := goodIn_r _ [10, 11, 2, 3, 12, 13, 14] (by decide +kernel) (by decide +kernel)
set_option maxRecDepth 20000 in
theorem gX2_init_X4_init : GoodIn wsX2_init (wsX4_init) := ggX2_init_X4_init
theorem dX2_init_0 : decode cX2_init 0 = .ok (.aload_n 0, 1) := by decide +kernel
theorem dX2_init_1 : decode cX2_init 1 = .ok (.invokespecial 3, 3) := by decide +kernel
theorem dX2_init_4 : decode cX2_init 4 = .ok (.aload_n 0, 1) := by decide +kernel
theorem dX2_init_5 : decode cX2_init 5 = .ok (.new 9, 3) := by decide +kernel
theorem dX2_init_8 : decode cX2_init 8 = .ok (.dup, 1) := by decide +kernel
theorem dX2_init_9 : decode cX2_init 9 = .ok (.sipush 150, 3) := by decide +kernel
theorem dX2_init_12 : decode cX2_init 12 = .ok (.invokespecial 11, 3) := by decide +kernel
theorem dX2_init_15 : decode cX2_init 15 = .ok (.putfield 14, 3) := by decide +kernel
theorem dX2_init_18 : decode cX2_init 18 = .ok (.return_, 1) := by decide +kernel
set_option maxRecDepth 20000 in
theorem ggX2_append_X4_put : GoodIn wsX2_append wsX4_put := goodIn_r _ [7, 8, 15] (by decide +kernel) (by decide +kernel)
set_option maxRecDepth 20000 in
theorem gX2_append_X4_put : GoodIn wsX2_append (wsV RX2 24 RX4 yX4_put wsX4_put) := goodIn_app (goodIn_of _ (by decide +kernel)) ggX2_append_X4_put
theorem dX2_append_0 : decode cX2_append 0 = .ok (.aload_n 0, 1) := by decide +kernel
theorem dX2_append_1 : decode cX2_append 1 = .ok (.getfield 14, 3) := by decide +kernel
theorem dX2_append_4 : decode cX2_append 4 = .ok (.aload_n 0, 1) := by decide +kernel
theorem dX2_append_5 : decode cX2_append 5 = .ok (.getfield 20, 3) := by decide +kernel
theorem dX2_append_8 : decode cX2_append 8 = .ok (.iload_n 1, 1) := by decide +kernel
theorem dX2_append_9 : decode cX2_append 9 = .ok (.invokevirtual 24, 3) := by decide +kernel
theorem dX2_append_12 : decode cX2_append 12 = .ok (.aload_n 0, 1) := by decide +kernel
theorem dX2_append_13 : decode cX2_append 13 = .ok (.dup, 1) := by decide +kernel
theorem dX2_append_14 : decode cX2_append 14 = .ok (.getfield 20, 3) := by decide +kernel
theorem dX2_append_17 : decode cX2_append 17 = .ok (.iconst 1, 1) := by decide +kernel
theorem dX2_append_18 : decode cX2_append 18 = .ok (.iadd, 1) := by decide +kernel
theorem dX2_append_19 : decode cX2_append 19 = .ok (.putfield 20, 3) := by decide +kernel
theorem dX2_append_22 : decode cX2_append 22 = .ok (.aload_n 0, 1) := by decide +kernel
theorem dX2_append_23 : decode cX2_append 23 = .ok (.getfield 20, 3) := by decide +kernel
theorem dX2_append_26 : decode cX2_append 26 = .ok (.ireturn, 1) := by decide +kernel
set_option maxRecDepth 20000 in
theorem ggX2_findFault_X2_hasCommand : GoodIn wsX2_findFault wsX2_hasCommand := goodIn_r _ [6, 1, 7, 8, 9, 10, 5, 11, 12, 13, 14, 15, 16, 17, 18, 19, 20, 21, 22, 97, 98, 99, 100, 101, 102, 103] (by decide +kernel) (by decide +kernel)
set_option maxRecDepth 20000 in
theorem gX2_findFault_X2_hasCommand : GoodIn wsX2_findFault (wsV RX2 31 RX2 yX2_hasCommand wsX2_hasCommand) := goodIn_app (goodIn_of _ (by decide +kernel)) ggX2_findFault_X2_hasCommand
set_option maxRecDepth 20000 in
theorem ggX2_findFault_X2_readCommand : GoodIn wsX2_findFault wsX2_readCommand := goodIn_r _ [26, 1, 7, 27, 28, 29, 12, 13, 14, 5, 15, 16, 17, 18, 19, 20, 21, 22, 30, 31, 32, 33, 34, 35, 36, 37, 38, 39, 40, 41, 42, 43, 44, 45, 46, 47, 48, 49, 50, 51, 52, 53, 54, 55, 56, 57, 58, 59, 60, 61, 62, 63, 64, 65, 66, 67, 68, 69, 70, 71, 72, 73, 74, 75, 76, 77, 78, 79, 80, 81, 82, 83, 84, 85, 86, 87, 88, 89, 90, 91, 92, 93, 8, 9, 10, 11, 94, 95, 96, 97, 98, 99, 100, 101, 102, 103] (by decide +kernel) (by decide +kernel)
set_option maxRecDepth 20000 in
theorem gX2_findFault_X2_readCommand : GoodIn wsX2_findFault (wsV RX2 35 RX2 yX2_readCommand wsX2_readCommand) := goodIn_app (goodIn_of _ (by decide +kernel)) ggX2_findFault_X2_readCommand
theorem dX2_findFault_0 : decode cX2_findFault 0 = .ok (.aload_n 0, 1) := by decide +kernel
theorem dX2_findFault_1 : decode cX2_findFault 1 = .ok (.iconst 0, 1) := by decide +kernel
theorem dX2_findFault_2 : decode cX2_findFault 2 = .ok (.putfield 28, 3) := by decide +kernel
theorem dX2_findFault_5 : decode cX2_findFault 5 = .ok (.iconst (-1), 1) := by decide +kernel
theorem dX2_findFault_6 : decode cX2_findFault 6 = .ok (.istore_n 1, 1) := by decide +kernel
theorem dX2_findFault_7 : decode cX2_findFault 7 = .ok (.iconst 0, 1) := by decide +kernel
theorem dX2_findFault_8 : decode cX2_findFault 8 = .ok (.istore_n 2, 1) := by decide +kernel
theorem dX2_findFault_9 : decode cX2_findFault 9 = .ok (.iload_n 2, 1) := by decide +kernel
theorem dX2_findFault_10 : decode cX2_findFault 10 = .ok (.sipush 150, 3) := by decide +kernel
theorem dX2_findFault_13 : decode cX2_findFault 13 = .ok (.if_icmp .ge 26, 3) := by decide +kernel
theorem dX2_findFault_16 : decode cX2_findFault 16 = .ok (.iload_n 1, 1) := by decide +kernel
theorem dX2_findFault_17 : decode cX2_findFault 17 = .ok (.iconst (-1), 1) := by decide +kernel
theorem dX2_findFault_18 : decode cX2_findFault 18 = .ok (.if_icmp .ne 21, 3) := by decide +kernel
theorem dX2_findFault_21 : decode cX2_findFault 21 = .ok (.aload_n 0, 1) := by decide +kernel
theorem dX2_findFault_22 : decode cX2_findFault 22 = .ok (.invokevirtual 31, 3) := by decide +kernel
theorem dX2_findFault_25 : decode cX2_findFault 25 = .ok (.ifCond .eq 14, 3) := by decide +kernel
theorem dX2_findFault_28 : decode cX2_findFault 28 = .ok (.aload_n 0, 1) := by decide +kernel
theorem dX2_findFault_29 : decode cX2_findFault 29 = .ok (.invokevirtual 35, 3) := by decide +kernel
theorem dX2_findFault_32 : decode cX2_findFault 32 = .ok (.istore_n 1, 1) := by decide +kernel
theorem dX2_findFault_33 : decode cX2_findFault 33 = .ok (.iinc 2 1, 3) := by decide +kernel
theorem dX2_findFault_36 : decode cX2_findFault 36 = .ok (.goto (-27), 3) := by decide +kernel
theorem dX2_findFault_39 : decode cX2_findFault 39 = .ok (.iload_n 1, 1) := by decide +kernel
theorem dX2_findFault_40 : decode cX2_findFault 40 = .ok (.ireturn, 1) := by decide +kernel
set_option maxRecDepth 20000 in
theorem ggX2_hasCommand_X2_skipSpaces : GoodIn wsX2_hasCommand wsX2_skipSpaces := goodIn_r _ [7, 1, 2, 8, 9, 10, 6, 11, 12, 13, 14, 15, 16, 17, 18, 19, 20, 21, 22, 23, 24, 25] (by decide +kernel) (by decide +kernel)
set_option maxRecDepth 20000 in
theorem gX2_hasCommand_X2_skipSpaces : GoodIn wsX2_hasCommand (wsV RX2 39 RX2 yX2_skipSpaces wsX2_skipSpaces) := goodIn_app (goodIn_of _ (by decide +kernel)) ggX2_hasCommand_X2_skipSpaces
theorem dX2_hasCommand_0 : decode cX2_hasCommand 0 = .ok (.aload_n 0, 1) := by decide +kernel
theorem dX2_hasCommand_1 : decode cX2_hasCommand 1 = .ok (.invokevirtual 39, 3) := by decide +kernel
theorem dX2_hasCommand_4 : decode cX2_hasCommand 4 = .ok (.aload_n 0, 1) := by decide +kernel
theorem dX2_hasCommand_5 : decode cX2_hasCommand 5 = .ok (.getfield 28, 3) := by decide +kernel
theorem dX2_hasCommand_8 : decode cX2_hasCommand 8 = .ok (.aload_n 0, 1) := by decide +kernel
theorem dX2_hasCommand_9 : decode cX2_hasCommand 9 = .ok (.getfield 20, 3) := by decide +kernel
theorem dX2_hasCommand_12 : decode cX2_hasCommand 12 = .ok (.if_icmp .ge 7, 3) := by decide +kernel
theorem dX2_hasCommand_15 : decode cX2_hasCommand 15 = .ok (.iconst 1, 1) := by decide +kernel
theorem dX2_hasCommand_16 : decode cX2_hasCommand 16 = .ok (.goto 4, 3) := by decide +kernel
theorem dX2_hasCommand_19 : decode cX2_hasCommand 19 = .ok (.iconst 0, 1) := by decide +kernel
theorem dX2_hasCommand_20 : decode cX2_hasCommand 20 = .ok (.ireturn, 1) := by decide +kernel
set_option maxRecDepth 20000 in
theorem ggX2_readCommand_X2_byteAt : GoodIn wsX2_readCommand wsX2_byteAt := goodIn_r _ [10, 2, 11, 12, 13, 14, 15, 16, 17, 89, 90, 91, 92, 93, 94, 95] (by decide +kernel) (by decide +kernel)
set_option maxRecDepth 20000 in
theorem gX2_readCommand_X2_byteAt : GoodIn wsX2_readCommand (wsV RX2 42 RX2 yX2_byteAt wsX2_byteAt) := goodIn_app (goodIn_of _ (by decide +kernel)) ggX2_readCommand_X2_byteAt
set_option maxRecDepth 20000 in
theorem ggX2_readCommand_X2_isLetter : GoodIn wsX2_readCommand wsX2_isLetter := goodIn_r _ [20] (by decide +kernel) (by decide +kernel)
set_option maxRecDepth 20000 in
theorem gX2_readCommand_X2_isLetter : GoodIn wsX2_readCommand (va_wsS RX2 46 yX2_isLetter wsX2_isLetter) := goodIn_app (goodIn_of _ (by decide +kernel)) ggX2_readCommand_X2_isLetter
set_option maxRecDepth 20000 in
theorem ggX2_readCommand_X2_commandNamed : GoodIn wsX2_readCommand wsX2_commandNamed := goodIn_r _ [24, 25, 26, 27, 9, 28, 29, 30, 31, 32, 33, 34, 35, 36, 37, 38, 39, 40, 41, 42, 43, 44, 45, 46, 47, 48, 49, 50, 51, 52, 53, 54, 55, 56, 57, 58, 59, 60, 61, 62, 63, 64, 65, 66, 67, 68, 69, 70, 71, 72, 73, 74, 75, 76, 77, 6, 7, 8, 10, 2, 11, 12, 13, 14, 15, 16, 17, 89, 90, 91, 92, 93, 94, 95] (by decide +kernel) (by decide +kernel)
set_option maxRecDepth 20000 in
theorem gX2_readCommand_X2_commandNamed : GoodIn wsX2_readCommand (wsV RX2 50 RX2 yX2_commandNamed wsX2_commandNamed) := goodIn_app (goodIn_of _ (by decide +kernel)) ggX2_readCommand_X2_commandNamed
set_option maxRecDepth 20000 in
theorem ggX2_readCommand_X2_readNumber : GoodIn wsX2_readCommand wsX2_readNumber := goodIn_r _ [81, 1, 2, 4, 5, 82, 83, 84, 9, 85, 6, 7, 8, 10, 11, 12, 13, 14, 15, 16, 17, 86, 87, 88, 89, 90, 91, 92, 93, 94, 95] (by decide +kernel) (by decide +kernel)
set_option maxRecDepth 20000 in
theorem gX2_readCommand_X2_readNumber : GoodIn wsX2_readCommand (wsV RX2 69 RX2 yX2_readNumber wsX2_readNumber) := goodIn_app (goodIn_of _ (by decide +kernel)) ggX2_readCommand_X2_readNumber
set_option maxRecDepth 20000 in
theorem ggX2_readCommand_X2_skipSpaces : GoodIn wsX2_readCommand wsX2_skipSpaces := goodIn_r _ [85, 1, 2, 6, 7, 8, 9, 10, 11, 12, 13, 14, 15, 16, 17, 89, 90, 91, 92, 93, 94, 95] (by decide +kernel) (by decide +kernel)
set_option maxRecDepth 20000 in
theorem gX2_readCommand_X2_skipSpaces : GoodIn wsX2_readCommand (wsV RX2 39 RX2 yX2_skipSpaces wsX2_skipSpaces) := goodIn_app (goodIn_of _ (by decide +kernel)) ggX2_readCommand_X2_skipSpaces
theorem dX2_readCommand_0 : decode cX2_readCommand 0 = .ok (.aload_n 0, 1) := by decide +kernel
theorem dX2_readCommand_1 : decode cX2_readCommand 1 = .ok (.getfield 28, 3) := by decide +kernel
theorem dX2_readCommand_4 : decode cX2_readCommand 4 = .ok (.istore_n 1, 1) := by decide +kernel
theorem dX2_readCommand_5 : decode cX2_readCommand 5 = .ok (.aload_n 0, 1) := by decide +kernel
theorem dX2_readCommand_6 : decode cX2_readCommand 6 = .ok (.getfield 28, 3) := by decide +kernel
theorem dX2_readCommand_9 : decode cX2_readCommand 9 = .ok (.aload_n 0, 1) := by decide +kernel
theorem dX2_readCommand_10 : decode cX2_readCommand 10 = .ok (.getfield 20, 3) := by decide +kernel
theorem dX2_readCommand_13 : decode cX2_readCommand 13 = .ok (.if_icmp .ge 30, 3) := by decide +kernel
theorem dX2_readCommand_16 : decode cX2_readCommand 16 = .ok (.aload_n 0, 1) := by decide +kernel
theorem dX2_readCommand_17 : decode cX2_readCommand 17 = .ok (.aload_n 0, 1) := by decide +kernel
theorem dX2_readCommand_18 : decode cX2_readCommand 18 = .ok (.getfield 28, 3) := by decide +kernel
theorem dX2_readCommand_21 : decode cX2_readCommand 21 = .ok (.invokevirtual 42, 3) := by decide +kernel
theorem dX2_readCommand_24 : decode cX2_readCommand 24 = .ok (.invokestatic 46, 3) := by decide +kernel
theorem dX2_readCommand_27 : decode cX2_readCommand 27 = .ok (.ifCond .eq 16, 3) := by decide +kernel
theorem dX2_readCommand_30 : decode cX2_readCommand 30 = .ok (.aload_n 0, 1) := by decide +kernel
theorem dX2_readCommand_31 : decode cX2_readCommand 31 = .ok (.dup, 1) := by decide +kernel
theorem dX2_readCommand_32 : decode cX2_readCommand 32 = .ok (.getfield 28, 3) := by decide +kernel
theorem dX2_readCommand_35 : decode cX2_readCommand 35 = .ok (.iconst 1, 1) := by decide +kernel
theorem dX2_readCommand_36 : decode cX2_readCommand 36 = .ok (.iadd, 1) := by decide +kernel
theorem dX2_readCommand_37 : decode cX2_readCommand 37 = .ok (.putfield 28, 3) := by decide +kernel
theorem dX2_readCommand_40 : decode cX2_readCommand 40 = .ok (.goto (-35), 3) := by decide +kernel
theorem dX2_readCommand_43 : decode cX2_readCommand 43 = .ok (.aload_n 0, 1) := by decide +kernel
theorem dX2_readCommand_44 : decode cX2_readCommand 44 = .ok (.aload_n 0, 1) := by decide +kernel
theorem dX2_readCommand_45 : decode cX2_readCommand 45 = .ok (.iload_n 1, 1) := by decide +kernel
theorem dX2_readCommand_46 : decode cX2_readCommand 46 = .ok (.aload_n 0, 1) := by decide +kernel
theorem dX2_readCommand_47 : decode cX2_readCommand 47 = .ok (.getfield 28, 3) := by decide +kernel
theorem dX2_readCommand_50 : decode cX2_readCommand 50 = .ok (.invokevirtual 50, 3) := by decide +kernel
theorem dX2_readCommand_53 : decode cX2_readCommand 53 = .ok (.putfield 54, 3) := by decide +kernel
theorem dX2_readCommand_56 : decode cX2_readCommand 56 = .ok (.aload_n 0, 1) := by decide +kernel
theorem dX2_readCommand_57 : decode cX2_readCommand 57 = .ok (.getfield 54, 3) := by decide +kernel
theorem dX2_readCommand_60 : decode cX2_readCommand 60 = .ok (.ifnonnull 5, 3) := by decide +kernel
theorem dX2_readCommand_63 : decode cX2_readCommand 63 = .ok (.iload_n 1, 1) := by decide +kernel
theorem dX2_readCommand_64 : decode cX2_readCommand 64 = .ok (.ireturn, 1) := by decide +kernel
theorem dX2_readCommand_65 : decode cX2_readCommand 65 = .ok (.aload_n 0, 1) := by decide +kernel
theorem dX2_readCommand_66 : decode cX2_readCommand 66 = .ok (.iconst 0, 1) := by decide +kernel
theorem dX2_readCommand_67 : decode cX2_readCommand 67 = .ok (.putfield 58, 3) := by decide +kernel
theorem dX2_readCommand_70 : decode cX2_readCommand 70 = .ok (.aload_n 0, 1) := by decide +kernel
theorem dX2_readCommand_71 : decode cX2_readCommand 71 = .ok (.iconst 0, 1) := by decide +kernel
theorem dX2_readCommand_72 : decode cX2_readCommand 72 = .ok (.putfield 61, 3) := by decide +kernel
theorem dX2_readCommand_75 : decode cX2_readCommand 75 = .ok (.iconst 0, 1) := by decide +kernel
theorem dX2_readCommand_76 : decode cX2_readCommand 76 = .ok (.istore_n 2, 1) := by decide +kernel
theorem dX2_readCommand_77 : decode cX2_readCommand 77 = .ok (.iload_n 2, 1) := by decide +kernel
theorem dX2_readCommand_78 : decode cX2_readCommand 78 = .ok (.aload_n 0, 1) := by decide +kernel
theorem dX2_readCommand_79 : decode cX2_readCommand 79 = .ok (.getfield 54, 3) := by decide +kernel
theorem dX2_readCommand_82 : decode cX2_readCommand 82 = .ok (.getfield 64, 3) := by decide +kernel
theorem dX2_readCommand_85 : decode cX2_readCommand 85 = .ok (.if_icmp .ge 22, 3) := by decide +kernel
theorem dX2_readCommand_88 : decode cX2_readCommand 88 = .ok (.aload_n 0, 1) := by decide +kernel
theorem dX2_readCommand_89 : decode cX2_readCommand 89 = .ok (.iload_n 2, 1) := by decide +kernel
theorem dX2_readCommand_90 : decode cX2_readCommand 90 = .ok (.invokevirtual 69, 3) := by decide +kernel
theorem dX2_readCommand_93 : decode cX2_readCommand 93 = .ok (.ifCond .ne 8, 3) := by decide +kernel
theorem dX2_readCommand_96 : decode cX2_readCommand 96 = .ok (.aload_n 0, 1) := by decide +kernel
theorem dX2_readCommand_97 : decode cX2_readCommand 97 = .ok (.getfield 28, 3) := by decide +kernel
theorem dX2_readCommand_100 : decode cX2_readCommand 100 = .ok (.ireturn, 1) := by decide +kernel
theorem dX2_readCommand_101 : decode cX2_readCommand 101 = .ok (.iinc 2 1, 3) := by decide +kernel
theorem dX2_readCommand_104 : decode cX2_readCommand 104 = .ok (.goto (-27), 3) := by decide +kernel
theorem dX2_readCommand_107 : decode cX2_readCommand 107 = .ok (.aload_n 0, 1) := by decide +kernel
theorem dX2_readCommand_108 : decode cX2_readCommand 108 = .ok (.invokevirtual 39, 3) := by decide +kernel
theorem dX2_readCommand_111 : decode cX2_readCommand 111 = .ok (.aload_n 0, 1) := by decide +kernel
theorem dX2_readCommand_112 : decode cX2_readCommand 112 = .ok (.aload_n 0, 1) := by decide +kernel
theorem dX2_readCommand_113 : decode cX2_readCommand 113 = .ok (.getfield 28, 3) := by decide +kernel
theorem dX2_readCommand_116 : decode cX2_readCommand 116 = .ok (.invokevirtual 42, 3) := by decide +kernel
theorem dX2_readCommand_119 : decode cX2_readCommand 119 = .ok (.bipush 59, 2) := by decide +kernel
theorem dX2_readCommand_121 : decode cX2_readCommand 121 = .ok (.if_icmp .eq 8, 3) := by decide +kernel
theorem dX2_readCommand_124 : decode cX2_readCommand 124 = .ok (.aload_n 0, 1) := by decide +kernel
theorem dX2_readCommand_125 : decode cX2_readCommand 125 = .ok (.getfield 28, 3) := by decide +kernel
theorem dX2_readCommand_128 : decode cX2_readCommand 128 = .ok (.ireturn, 1) := by decide +kernel
theorem dX2_readCommand_129 : decode cX2_readCommand 129 = .ok (.aload_n 0, 1) := by decide +kernel
theorem dX2_readCommand_130 : decode cX2_readCommand 130 = .ok (.dup, 1) := by decide +kernel
theorem dX2_readCommand_131 : decode cX2_readCommand 131 = .ok (.getfield 28, 3) := by decide +kernel
theorem dX2_readCommand_134 : decode cX2_readCommand 134 = .ok (.iconst 1, 1) := by decide +kernel
theorem dX2_readCommand_135 : decode cX2_readCommand 135 = .ok (.iadd, 1) := by decide +kernel
theorem dX2_readCommand_136 : decode cX2_readCommand 136 = .ok (.putfield 28, 3) := by decide +kernel
theorem dX2_readCommand_139 : decode cX2_readCommand 139 = .ok (.iconst (-1), 1) := by decide +kernel
theorem dX2_readCommand_140 : decode cX2_readCommand 140 = .ok (.ireturn, 1) := by decide +kernel
set_option maxRecDepth 20000 in
theorem ggX2_readNumber_X2_skipSpaces : GoodIn wsX2_readNumber wsX2_skipSpaces := goodIn_r _ [9, 1, 2, 10, 11, 12, 8, 13, 14, 15, 16, 17, 18, 19, 20, 24, 25, 26, 27, 28, 29, 30] (by decide +kernel) (by decide +kernel)
set_option maxRecDepth 20000 in
theorem gX2_readNumber_X2_skipSpaces : GoodIn wsX2_readNumber (wsV RX2 39 RX2 yX2_skipSpaces wsX2_skipSpaces) := goodIn_app (goodIn_of _ (by decide +kernel)) ggX2_readNumber_X2_skipSpaces
set_option maxRecDepth 20000 in
theorem ggX2_readNumber_X2_byteAt : GoodIn wsX2_readNumber wsX2_byteAt := goodIn_r _ [13, 2, 14, 15, 16, 17, 18, 19, 20, 24, 25, 26, 27, 28, 29, 30] (by decide +kernel) (by decide +kernel)
set_option maxRecDepth 20000 in
theorem gX2_readNumber_X2_byteAt : GoodIn wsX2_readNumber (wsV RX2 42 RX2 yX2_byteAt wsX2_byteAt) := goodIn_app (goodIn_of _ (by decide +kernel)) ggX2_readNumber_X2_byteAt
set_option maxRecDepth 20000 in
theorem ggX2_readNumber_X2_isDigit : GoodIn wsX2_readNumber wsX2_isDigit := goodIn_r _ [23] (by decide +kernel) (by decide +kernel)
set_option maxRecDepth 20000 in
theorem gX2_readNumber_X2_isDigit : GoodIn wsX2_readNumber (va_wsS RX2 72 yX2_isDigit wsX2_isDigit) := goodIn_app (goodIn_of _ (by decide +kernel)) ggX2_readNumber_X2_isDigit
theorem dX2_readNumber_0 : decode cX2_readNumber 0 = .ok (.aload_n 0, 1) := by decide +kernel
theorem dX2_readNumber_1 : decode cX2_readNumber 1 = .ok (.getfield 28, 3) := by decide +kernel
theorem dX2_readNumber_4 : decode cX2_readNumber 4 = .ok (.istore_n 2, 1) := by decide +kernel
theorem dX2_readNumber_5 : decode cX2_readNumber 5 = .ok (.aload_n 0, 1) := by decide +kernel
theorem dX2_readNumber_6 : decode cX2_readNumber 6 = .ok (.invokevirtual 39, 3) := by decide +kernel
theorem dX2_readNumber_9 : decode cX2_readNumber 9 = .ok (.aload_n 0, 1) := by decide +kernel
theorem dX2_readNumber_10 : decode cX2_readNumber 10 = .ok (.getfield 28, 3) := by decide +kernel
theorem dX2_readNumber_13 : decode cX2_readNumber 13 = .ok (.iload_n 2, 1) := by decide +kernel
theorem dX2_readNumber_14 : decode cX2_readNumber 14 = .ok (.if_icmp .ne 5, 3) := by decide +kernel
theorem dX2_readNumber_17 : decode cX2_readNumber 17 = .ok (.iconst 0, 1) := by decide +kernel
theorem dX2_readNumber_18 : decode cX2_readNumber 18 = .ok (.ireturn, 1) := by decide +kernel
theorem dX2_readNumber_19 : decode cX2_readNumber 19 = .ok (.aload_n 0, 1) := by decide +kernel
theorem dX2_readNumber_20 : decode cX2_readNumber 20 = .ok (.getfield 28, 3) := by decide +kernel
theorem dX2_readNumber_23 : decode cX2_readNumber 23 = .ok (.istore_n 3, 1) := by decide +kernel
theorem dX2_readNumber_24 : decode cX2_readNumber 24 = .ok (.iconst 0, 1) := by decide +kernel
theorem dX2_readNumber_25 : decode cX2_readNumber 25 = .ok (.istore 4, 2) := by decide +kernel
theorem dX2_readNumber_27 : decode cX2_readNumber 27 = .ok (.aload_n 0, 1) := by decide +kernel
theorem dX2_readNumber_28 : decode cX2_readNumber 28 = .ok (.getfield 28, 3) := by decide +kernel
theorem dX2_readNumber_31 : decode cX2_readNumber 31 = .ok (.aload_n 0, 1) := by decide +kernel
theorem dX2_readNumber_32 : decode cX2_readNumber 32 = .ok (.getfield 20, 3) := by decide +kernel
theorem dX2_readNumber_35 : decode cX2_readNumber 35 = .ok (.if_icmp .ge 59, 3) := by decide +kernel
theorem dX2_readNumber_38 : decode cX2_readNumber 38 = .ok (.aload_n 0, 1) := by decide +kernel
theorem dX2_readNumber_39 : decode cX2_readNumber 39 = .ok (.getfield 28, 3) := by decide +kernel
theorem dX2_readNumber_42 : decode cX2_readNumber 42 = .ok (.iload_n 3, 1) := by decide +kernel
theorem dX2_readNumber_43 : decode cX2_readNumber 43 = .ok (.iconst 3, 1) := by decide +kernel
theorem dX2_readNumber_44 : decode cX2_readNumber 44 = .ok (.iadd, 1) := by decide +kernel
theorem dX2_readNumber_45 : decode cX2_readNumber 45 = .ok (.if_icmp .ge 49, 3) := by decide +kernel
theorem dX2_readNumber_48 : decode cX2_readNumber 48 = .ok (.aload_n 0, 1) := by decide +kernel
theorem dX2_readNumber_49 : decode cX2_readNumber 49 = .ok (.aload_n 0, 1) := by decide +kernel
theorem dX2_readNumber_50 : decode cX2_readNumber 50 = .ok (.getfield 28, 3) := by decide +kernel
theorem dX2_readNumber_53 : decode cX2_readNumber 53 = .ok (.invokevirtual 42, 3) := by decide +kernel
theorem dX2_readNumber_56 : decode cX2_readNumber 56 = .ok (.invokestatic 72, 3) := by decide +kernel
theorem dX2_readNumber_59 : decode cX2_readNumber 59 = .ok (.ifCond .eq 35, 3) := by decide +kernel
theorem dX2_readNumber_62 : decode cX2_readNumber 62 = .ok (.iload 4, 2) := by decide +kernel
theorem dX2_readNumber_64 : decode cX2_readNumber 64 = .ok (.bipush 10, 2) := by decide +kernel
theorem dX2_readNumber_66 : decode cX2_readNumber 66 = .ok (.imul, 1) := by decide +kernel
theorem dX2_readNumber_67 : decode cX2_readNumber 67 = .ok (.aload_n 0, 1) := by decide +kernel
theorem dX2_readNumber_68 : decode cX2_readNumber 68 = .ok (.aload_n 0, 1) := by decide +kernel
theorem dX2_readNumber_69 : decode cX2_readNumber 69 = .ok (.getfield 28, 3) := by decide +kernel
theorem dX2_readNumber_72 : decode cX2_readNumber 72 = .ok (.invokevirtual 42, 3) := by decide +kernel
theorem dX2_readNumber_75 : decode cX2_readNumber 75 = .ok (.iadd, 1) := by decide +kernel
theorem dX2_readNumber_76 : decode cX2_readNumber 76 = .ok (.bipush 48, 2) := by decide +kernel
theorem dX2_readNumber_78 : decode cX2_readNumber 78 = .ok (.isub, 1) := by decide +kernel
theorem dX2_readNumber_79 : decode cX2_readNumber 79 = .ok (.istore 4, 2) := by decide +kernel
theorem dX2_readNumber_81 : decode cX2_readNumber 81 = .ok (.aload_n 0, 1) := by decide +kernel
theorem dX2_readNumber_82 : decode cX2_readNumber 82 = .ok (.dup, 1) := by decide +kernel
theorem dX2_readNumber_83 : decode cX2_readNumber 83 = .ok (.getfield 28, 3) := by decide +kernel
theorem dX2_readNumber_86 : decode cX2_readNumber 86 = .ok (.iconst 1, 1) := by decide +kernel
theorem dX2_readNumber_87 : decode cX2_readNumber 87 = .ok (.iadd, 1) := by decide +kernel
theorem dX2_readNumber_88 : decode cX2_readNumber 88 = .ok (.putfield 28, 3) := by decide +kernel
theorem dX2_readNumber_91 : decode cX2_readNumber 91 = .ok (.goto (-64), 3) := by decide +kernel
theorem dX2_readNumber_94 : decode cX2_readNumber 94 = .ok (.iload_n 1, 1) := by decide +kernel
theorem dX2_readNumber_95 : decode cX2_readNumber 95 = .ok (.ifCond .ne 12, 3) := by decide +kernel
theorem dX2_readNumber_98 : decode cX2_readNumber 98 = .ok (.aload_n 0, 1) := by decide +kernel
theorem dX2_readNumber_99 : decode cX2_readNumber 99 = .ok (.iload 4, 2) := by decide +kernel
theorem dX2_readNumber_101 : decode cX2_readNumber 101 = .ok (.putfield 58, 3) := by decide +kernel
theorem dX2_readNumber_104 : decode cX2_readNumber 104 = .ok (.goto 9, 3) := by decide +kernel
theorem dX2_readNumber_107 : decode cX2_readNumber 107 = .ok (.aload_n 0, 1) := by decide +kernel
theorem dX2_readNumber_108 : decode cX2_readNumber 108 = .ok (.iload 4, 2) := by decide +kernel
theorem dX2_readNumber_110 : decode cX2_readNumber 110 = .ok (.putfield 61, 3) := by decide +kernel
theorem dX2_readNumber_113 : decode cX2_readNumber 113 = .ok (.aload_n 0, 1) := by decide +kernel
theorem dX2_readNumber_114 : decode cX2_readNumber 114 = .ok (.getfield 28, 3) := by decide +kernel
theorem dX2_readNumber_117 : decode cX2_readNumber 117 = .ok (.iload_n 3, 1) := by decide +kernel
theorem dX2_readNumber_118 : decode cX2_readNumber 118 = .ok (.if_icmp .le 7, 3) := by decide +kernel
theorem dX2_readNumber_121 : decode cX2_readNumber 121 = .ok (.iconst 1, 1) := by decide +kernel
theorem dX2_readNumber_122 : decode cX2_readNumber 122 = .ok (.goto 4, 3) := by decide +kernel
theorem dX2_readNumber_125 : decode cX2_readNumber 125 = .ok (.iconst 0, 1) := by decide +kernel
theorem dX2_readNumber_126 : decode cX2_readNumber 126 = .ok (.ireturn, 1) := by decide +kernel
set_option maxRecDepth 20000 in
theorem ggX2_commandNamed_X2_stands : GoodIn wsX2_commandNamed wsX2_stands := goodIn_r _ [5, 6, 7, 8, 9, 10, 11, 12, 13, 14, 15, 16, 17, 18, 19, 20, 21, 22, 23, 24, 25, 26, 27, 28, 29, 30, 31, 32, 33, 34, 35, 36, 37, 38, 39, 40, 41, 42, 43, 44, 45, 46, 47, 48, 49, 50, 51, 52, 53, 54, 55, 56, 57, 4, 58, 59, 60, 61, 62, 63, 64, 65, 66, 67, 68, 69, 70, 71, 72, 73] (by decide +kernel) (by decide +kernel)
set_option maxRecDepth 20000 in
theorem gX2_commandNamed_X2_stands : GoodIn wsX2_commandNamed (wsV RX2 83 RX2 yX2_stands wsX2_stands) := goodIn_app (goodIn_of _ (by decide +kernel)) ggX2_commandNamed_X2_stands
theorem dX2_commandNamed_0 : decode cX2_commandNamed 0 = .ok (.getstatic 75, 3) := by decide +kernel
theorem dX2_commandNamed_3 : decode cX2_commandNamed 3 = .ok (.astore_n 3, 1) := by decide +kernel
theorem dX2_commandNamed_4 : decode cX2_commandNamed 4 = .ok (.aload_n 3, 1) := by decide +kernel
theorem dX2_commandNamed_5 : decode cX2_commandNamed 5 = .ok (.arraylength, 1) := by decide +kernel
theorem dX2_commandNamed_6 : decode cX2_commandNamed 6 = .ok (.istore 4, 2) := by decide +kernel
theorem dX2_commandNamed_8 : decode cX2_commandNamed 8 = .ok (.iconst 0, 1) := by decide +kernel
theorem dX2_commandNamed_9 : decode cX2_commandNamed 9 = .ok (.istore 5, 2) := by decide +kernel
theorem dX2_commandNamed_11 : decode cX2_commandNamed 11 = .ok (.iload 5, 2) := by decide +kernel
theorem dX2_commandNamed_13 : decode cX2_commandNamed 13 = .ok (.iload 4, 2) := by decide +kernel
theorem dX2_commandNamed_15 : decode cX2_commandNamed 15 = .ok (.if_icmp .ge 37, 3) := by decide +kernel
theorem dX2_commandNamed_18 : decode cX2_commandNamed 18 = .ok (.aload_n 3, 1) := by decide +kernel
theorem dX2_commandNamed_19 : decode cX2_commandNamed 19 = .ok (.iload 5, 2) := by decide +kernel
theorem dX2_commandNamed_21 : decode cX2_commandNamed 21 = .ok (.aaload, 1) := by decide +kernel
theorem dX2_commandNamed_22 : decode cX2_commandNamed 22 = .ok (.astore 6, 2) := by decide +kernel
theorem dX2_commandNamed_24 : decode cX2_commandNamed 24 = .ok (.aload 6, 2) := by decide +kernel
theorem dX2_commandNamed_26 : decode cX2_commandNamed 26 = .ok (.ifnull 20, 3) := by decide +kernel
theorem dX2_commandNamed_29 : decode cX2_commandNamed 29 = .ok (.aload_n 0, 1) := by decide +kernel
theorem dX2_commandNamed_30 : decode cX2_commandNamed 30 = .ok (.aload 6, 2) := by decide +kernel
theorem dX2_commandNamed_32 : decode cX2_commandNamed 32 = .ok (.getfield 79, 3) := by decide +kernel
theorem dX2_commandNamed_35 : decode cX2_commandNamed 35 = .ok (.iload_n 1, 1) := by decide +kernel
theorem dX2_commandNamed_36 : decode cX2_commandNamed 36 = .ok (.iload_n 2, 1) := by decide +kernel
theorem dX2_commandNamed_37 : decode cX2_commandNamed 37 = .ok (.invokevirtual 83, 3) := by decide +kernel
theorem dX2_commandNamed_40 : decode cX2_commandNamed 40 = .ok (.ifCond .eq 6, 3) := by decide +kernel
theorem dX2_commandNamed_43 : decode cX2_commandNamed 43 = .ok (.aload 6, 2) := by decide +kernel
theorem dX2_commandNamed_45 : decode cX2_commandNamed 45 = .ok (.areturn, 1) := by decide +kernel
theorem dX2_commandNamed_46 : decode cX2_commandNamed 46 = .ok (.iinc 5 1, 3) := by decide +kernel
theorem dX2_commandNamed_49 : decode cX2_commandNamed 49 = .ok (.goto (-38), 3) := by decide +kernel
theorem dX2_commandNamed_52 : decode cX2_commandNamed 52 = .ok (.aconst_null, 1) := by decide +kernel
theorem dX2_commandNamed_53 : decode cX2_commandNamed 53 = .ok (.areturn, 1) := by decide +kernel
set_option maxRecDepth 20000 in
theorem ggX2_stands_J0_length_8abf5 : GoodIn wsX2_stands wsJ0_length_8abf5 := goodIn_r _ [5, 6, 7, 8, 9, 4, 10, 11, 12] (by decide +kernel) (by decide +kernel)
set_option maxRecDepth 20000 in
theorem gX2_stands_J0_length_8abf5 : GoodIn wsX2_stands (wsV RX2 87 RJ0 yJ0_length_8abf5 wsJ0_length_8abf5) := goodIn_app (goodIn_of _ (by decide +kernel)) ggX2_stands_J0_length_8abf5
set_option maxRecDepth 20000 in
theorem ggX2_stands_J0_charAt_5068e : GoodIn wsX2_stands wsJ0_charAt_5068e := goodIn_r _ [16, 6, 17, 18, 19, 4, 20, 11, 12, 21, 22, 23, 24, 25, 26, 27, 28, 29, 30, 31, 32, 33, 34, 35, 36, 37, 38, 39, 40, 41, 42, 43, 44, 45, 46, 47, 48, 49] (by decide +kernel) (by decide +kernel)
set_option maxRecDepth 20000 in
theorem gX2_stands_J0_charAt_5068e : GoodIn wsX2_stands (wsV RX2 91 RJ0 yJ0_charAt_5068e wsJ0_charAt_5068e) := goodIn_app (goodIn_of _ (by decide +kernel)) ggX2_stands_J0_charAt_5068e
set_option maxRecDepth 20000 in
theorem ggX2_stands_X2_byteAt : GoodIn wsX2_stands wsX2_byteAt := goodIn_r _ [54, 55, 56, 57, 58, 59, 60, 61, 62, 63, 64, 65, 66, 67, 68, 69] (by decide +kernel) (by decide +kernel)
set_option maxRecDepth 20000 in
theorem gX2_stands_X2_byteAt : GoodIn wsX2_stands (wsV RX2 42 RX2 yX2_byteAt wsX2_byteAt) := goodIn_app (goodIn_of _ (by decide +kernel)) ggX2_stands_X2_byteAt
theorem dX2_stands_0 : decode cX2_stands 0 = .ok (.aload_n 1, 1) := by decide +kernel
theorem dX2_stands_1 : decode cX2_stands 1 = .ok (.invokevirtual 87, 3) := by decide +kernel
theorem dX2_stands_4 : decode cX2_stands 4 = .ok (.iload_n 3, 1) := by decide +kernel
theorem dX2_stands_5 : decode cX2_stands 5 = .ok (.iload_n 2, 1) := by decide +kernel
theorem dX2_stands_6 : decode cX2_stands 6 = .ok (.isub, 1) := by decide +kernel
theorem dX2_stands_7 : decode cX2_stands 7 = .ok (.if_icmp .eq 5, 3) := by decide +kernel
theorem dX2_stands_10 : decode cX2_stands 10 = .ok (.iconst 0, 1) := by decide +kernel
theorem dX2_stands_11 : decode cX2_stands 11 = .ok (.ireturn, 1) := by decide +kernel
theorem dX2_stands_12 : decode cX2_stands 12 = .ok (.iconst 0, 1) := by decide +kernel
theorem dX2_stands_13 : decode cX2_stands 13 = .ok (.istore 4, 2) := by decide +kernel
theorem dX2_stands_15 : decode cX2_stands 15 = .ok (.iload 4, 2) := by decide +kernel
theorem dX2_stands_17 : decode cX2_stands 17 = .ok (.aload_n 1, 1) := by decide +kernel
theorem dX2_stands_18 : decode cX2_stands 18 = .ok (.invokevirtual 87, 3) := by decide +kernel
theorem dX2_stands_21 : decode cX2_stands 21 = .ok (.if_icmp .ge 28, 3) := by decide +kernel
theorem dX2_stands_24 : decode cX2_stands 24 = .ok (.aload_n 1, 1) := by decide +kernel
theorem dX2_stands_25 : decode cX2_stands 25 = .ok (.iload 4, 2) := by decide +kernel
theorem dX2_stands_27 : decode cX2_stands 27 = .ok (.invokevirtual 91, 3) := by decide +kernel
theorem dX2_stands_30 : decode cX2_stands 30 = .ok (.aload_n 0, 1) := by decide +kernel
theorem dX2_stands_31 : decode cX2_stands 31 = .ok (.iload_n 2, 1) := by decide +kernel
theorem dX2_stands_32 : decode cX2_stands 32 = .ok (.iload 4, 2) := by decide +kernel
theorem dX2_stands_34 : decode cX2_stands 34 = .ok (.iadd, 1) := by decide +kernel
theorem dX2_stands_35 : decode cX2_stands 35 = .ok (.invokevirtual 42, 3) := by decide +kernel
theorem dX2_stands_38 : decode cX2_stands 38 = .ok (.if_icmp .eq 5, 3) := by decide +kernel
theorem dX2_stands_41 : decode cX2_stands 41 = .ok (.iconst 0, 1) := by decide +kernel
theorem dX2_stands_42 : decode cX2_stands 42 = .ok (.ireturn, 1) := by decide +kernel
theorem dX2_stands_43 : decode cX2_stands 43 = .ok (.iinc 4 1, 3) := by decide +kernel
theorem dX2_stands_46 : decode cX2_stands 46 = .ok (.goto (-31), 3) := by decide +kernel
theorem dX2_stands_49 : decode cX2_stands 49 = .ok (.iconst 1, 1) := by decide +kernel
theorem dX2_stands_50 : decode cX2_stands 50 = .ok (.ireturn, 1) := by decide +kernel
set_option maxRecDepth 20000 in
theorem ggX2_skipSpaces_X2_byteAt : GoodIn wsX2_skipSpaces wsX2_byteAt := goodIn_r _ [7, 2, 8, 9, 10, 11, 12, 13, 14, 15, 16, 17, 18, 19, 20, 21] (by decide +kernel) (by decide +kernel)
set_option maxRecDepth 20000 in
theorem gX2_skipSpaces_X2_byteAt : GoodIn wsX2_skipSpaces (wsV RX2 42 RX2 yX2_byteAt wsX2_byteAt) := goodIn_app (goodIn_of _ (by decide +kernel)) ggX2_skipSpaces_X2_byteAt
theorem dX2_skipSpaces_0 : decode cX2_skipSpaces 0 = .ok (.aload_n 0, 1) := by decide +kernel
theorem dX2_skipSpaces_1 : decode cX2_skipSpaces 1 = .ok (.getfield 28, 3) := by decide +kernel
theorem dX2_skipSpaces_4 : decode cX2_skipSpaces 4 = .ok (.aload_n 0, 1) := by decide +kernel
theorem dX2_skipSpaces_5 : decode cX2_skipSpaces 5 = .ok (.getfield 20, 3) := by decide +kernel
theorem dX2_skipSpaces_8 : decode cX2_skipSpaces 8 = .ok (.if_icmp .ge 29, 3) := by decide +kernel
theorem dX2_skipSpaces_11 : decode cX2_skipSpaces 11 = .ok (.aload_n 0, 1) := by decide +kernel
theorem dX2_skipSpaces_12 : decode cX2_skipSpaces 12 = .ok (.aload_n 0, 1) := by decide +kernel
theorem dX2_skipSpaces_13 : decode cX2_skipSpaces 13 = .ok (.getfield 28, 3) := by decide +kernel
theorem dX2_skipSpaces_16 : decode cX2_skipSpaces 16 = .ok (.invokevirtual 42, 3) := by decide +kernel
theorem dX2_skipSpaces_19 : decode cX2_skipSpaces 19 = .ok (.bipush 32, 2) := by decide +kernel
theorem dX2_skipSpaces_21 : decode cX2_skipSpaces 21 = .ok (.if_icmp .ne 16, 3) := by decide +kernel
theorem dX2_skipSpaces_24 : decode cX2_skipSpaces 24 = .ok (.aload_n 0, 1) := by decide +kernel
theorem dX2_skipSpaces_25 : decode cX2_skipSpaces 25 = .ok (.dup, 1) := by decide +kernel
theorem dX2_skipSpaces_26 : decode cX2_skipSpaces 26 = .ok (.getfield 28, 3) := by decide +kernel
theorem dX2_skipSpaces_29 : decode cX2_skipSpaces 29 = .ok (.iconst 1, 1) := by decide +kernel
theorem dX2_skipSpaces_30 : decode cX2_skipSpaces 30 = .ok (.iadd, 1) := by decide +kernel
theorem dX2_skipSpaces_31 : decode cX2_skipSpaces 31 = .ok (.putfield 28, 3) := by decide +kernel
theorem dX2_skipSpaces_34 : decode cX2_skipSpaces 34 = .ok (.goto (-34), 3) := by decide +kernel
theorem dX2_skipSpaces_37 : decode cX2_skipSpaces 37 = .ok (.return_, 1) := by decide +kernel
set_option maxRecDepth 20000 in
theorem ggX2_byteAt_X4_at : GoodIn wsX2_byteAt wsX4_at := goodIn_r _ [7, 8, 15] (by decide +kernel) (by decide +kernel)
set_option maxRecDepth 20000 in
theorem gX2_byteAt_X4_at : GoodIn wsX2_byteAt (wsV RX2 95 RX4 yX4_at wsX4_at) := goodIn_app (goodIn_of _ (by decide +kernel)) ggX2_byteAt_X4_at
theorem dX2_byteAt_0 : decode cX2_byteAt 0 = .ok (.iload_n 1, 1) := by decide +kernel
theorem dX2_byteAt_1 : decode cX2_byteAt 1 = .ok (.aload_n 0, 1) := by decide +kernel
theorem dX2_byteAt_2 : decode cX2_byteAt 2 = .ok (.getfield 20, 3) := by decide +kernel
theorem dX2_byteAt_5 : decode cX2_byteAt 5 = .ok (.if_icmp .ge 14, 3) := by decide +kernel
theorem dX2_byteAt_8 : decode cX2_byteAt 8 = .ok (.aload_n 0, 1) := by decide +kernel
theorem dX2_byteAt_9 : decode cX2_byteAt 9 = .ok (.getfield 14, 3) := by decide +kernel
theorem dX2_byteAt_12 : decode cX2_byteAt 12 = .ok (.iload_n 1, 1) := by decide +kernel
theorem dX2_byteAt_13 : decode cX2_byteAt 13 = .ok (.invokevirtual 95, 3) := by decide +kernel
theorem dX2_byteAt_16 : decode cX2_byteAt 16 = .ok (.goto 4, 3) := by decide +kernel
theorem dX2_byteAt_19 : decode cX2_byteAt 19 = .ok (.iconst (-1), 1) := by decide +kernel
theorem dX2_byteAt_20 : decode cX2_byteAt 20 = .ok (.ireturn, 1) := by decide +kernel
theorem dX2_isLetter_0 : decode cX2_isLetter 0 = .ok (.iload_n 0, 1) := by decide +kernel
theorem dX2_isLetter_1 : decode cX2_isLetter 1 = .ok (.bipush 97, 2) := by decide +kernel
theorem dX2_isLetter_3 : decode cX2_isLetter 3 = .ok (.if_icmp .lt 13, 3) := by decide +kernel
theorem dX2_isLetter_6 : decode cX2_isLetter 6 = .ok (.iload_n 0, 1) := by decide +kernel
theorem dX2_isLetter_7 : decode cX2_isLetter 7 = .ok (.bipush 122, 2) := by decide +kernel
theorem dX2_isLetter_9 : decode cX2_isLetter 9 = .ok (.if_icmp .gt 7, 3) := by decide +kernel
theorem dX2_isLetter_12 : decode cX2_isLetter 12 = .ok (.iconst 1, 1) := by decide +kernel
theorem dX2_isLetter_13 : decode cX2_isLetter 13 = .ok (.goto 4, 3) := by decide +kernel
theorem dX2_isLetter_16 : decode cX2_isLetter 16 = .ok (.iconst 0, 1) := by decide +kernel
theorem dX2_isLetter_17 : decode cX2_isLetter 17 = .ok (.ireturn, 1) := by decide +kernel
theorem dX2_isDigit_0 : decode cX2_isDigit 0 = .ok (.iload_n 0, 1) := by decide +kernel
theorem dX2_isDigit_1 : decode cX2_isDigit 1 = .ok (.bipush 48, 2) := by decide +kernel
theorem dX2_isDigit_3 : decode cX2_isDigit 3 = .ok (.if_icmp .lt 13, 3) := by decide +kernel
theorem dX2_isDigit_6 : decode cX2_isDigit 6 = .ok (.iload_n 0, 1) := by decide +kernel
theorem dX2_isDigit_7 : decode cX2_isDigit 7 = .ok (.bipush 57, 2) := by decide +kernel
theorem dX2_isDigit_9 : decode cX2_isDigit 9 = .ok (.if_icmp .gt 7, 3) := by decide +kernel
theorem dX2_isDigit_12 : decode cX2_isDigit 12 = .ok (.iconst 1, 1) := by decide +kernel
theorem dX2_isDigit_13 : decode cX2_isDigit 13 = .ok (.goto 4, 3) := by decide +kernel
theorem dX2_isDigit_16 : decode cX2_isDigit 16 = .ok (.iconst 0, 1) := by decide +kernel
theorem dX2_isDigit_17 : decode cX2_isDigit 17 = .ok (.ireturn, 1) := by decide +kernel
set_option maxRecDepth 20000 in
theorem ggX3_init_X4_init : GoodIn wsX3_init wsX4_init := goodIn_r _ [16, 17, 2, 3, 18, 19, 20] (by decide +kernel) (by decide +kernel)
set_option maxRecDepth 20000 in
theorem gX3_init_X4_init : GoodIn wsX3_init (wsX4_init) := ggX3_init_X4_init
theorem dX3_init_0 : decode cX3_init 0 = .ok (.aload_n 0, 1) := by decide +kernel
theorem dX3_init_1 : decode cX3_init 1 = .ok (.invokespecial 3, 3) := by decide +kernel
theorem dX3_init_4 : decode cX3_init 4 = .ok (.aload_n 0, 1) := by decide +kernel
theorem dX3_init_5 : decode cX3_init 5 = .ok (.new 9, 3) := by decide +kernel
theorem dX3_init_8 : decode cX3_init 8 = .ok (.dup, 1) := by decide +kernel
theorem dX3_init_9 : decode cX3_init 9 = .ok (.sipush 256, 3) := by decide +kernel
theorem dX3_init_12 : decode cX3_init 12 = .ok (.invokespecial 11, 3) := by decide +kernel
theorem dX3_init_15 : decode cX3_init 15 = .ok (.putfield 14, 3) := by decide +kernel
theorem dX3_init_18 : decode cX3_init 18 = .ok (.aload_n 0, 1) := by decide +kernel
theorem dX3_init_19 : decode cX3_init 19 = .ok (.new 9, 3) := by decide +kernel
theorem dX3_init_22 : decode cX3_init 22 = .ok (.dup, 1) := by decide +kernel
theorem dX3_init_23 : decode cX3_init 23 = .ok (.sipush 256, 3) := by decide +kernel
theorem dX3_init_26 : decode cX3_init 26 = .ok (.invokespecial 11, 3) := by decide +kernel
theorem dX3_init_29 : decode cX3_init 29 = .ok (.putfield 20, 3) := by decide +kernel
theorem dX3_init_32 : decode cX3_init 32 = .ok (.aload_n 0, 1) := by decide +kernel
theorem dX3_init_33 : decode cX3_init 33 = .ok (.new 9, 3) := by decide +kernel
theorem dX3_init_36 : decode cX3_init 36 = .ok (.dup, 1) := by decide +kernel
theorem dX3_init_37 : decode cX3_init 37 = .ok (.sipush 256, 3) := by decide +kernel
theorem dX3_init_40 : decode cX3_init 40 = .ok (.invokespecial 11, 3) := by decide +kernel
theorem dX3_init_43 : decode cX3_init 43 = .ok (.putfield 23, 3) := by decide +kernel
theorem dX3_init_46 : decode cX3_init 46 = .ok (.aload_n 0, 1) := by decide +kernel
theorem dX3_init_47 : decode cX3_init 47 = .ok (.new 9, 3) := by decide +kernel
theorem dX3_init_50 : decode cX3_init 50 = .ok (.dup, 1) := by decide +kernel
theorem dX3_init_51 : decode cX3_init 51 = .ok (.bipush 8, 2) := by decide +kernel
theorem dX3_init_53 : decode cX3_init 53 = .ok (.invokespecial 11, 3) := by decide +kernel
theorem dX3_init_56 : decode cX3_init 56 = .ok (.putfield 26, 3) := by decide +kernel
theorem dX3_init_59 : decode cX3_init 59 = .ok (.aload_n 0, 1) := by decide +kernel
theorem dX3_init_60 : decode cX3_init 60 = .ok (.new 9, 3) := by decide +kernel
theorem dX3_init_63 : decode cX3_init 63 = .ok (.dup, 1) := by decide +kernel
theorem dX3_init_64 : decode cX3_init 64 = .ok (.bipush 8, 2) := by decide +kernel
theorem dX3_init_66 : decode cX3_init 66 = .ok (.invokespecial 11, 3) := by decide +kernel
theorem dX3_init_69 : decode cX3_init 69 = .ok (.putfield 29, 3) := by decide +kernel
theorem dX3_init_72 : decode cX3_init 72 = .ok (.aload_n 0, 1) := by decide +kernel
theorem dX3_init_73 : decode cX3_init 73 = .ok (.new 9, 3) := by decide +kernel
theorem dX3_init_76 : decode cX3_init 76 = .ok (.dup, 1) := by decide +kernel
theorem dX3_init_77 : decode cX3_init 77 = .ok (.sipush 402, 3) := by decide +kernel
theorem dX3_init_80 : decode cX3_init 80 = .ok (.invokespecial 11, 3) := by decide +kernel
theorem dX3_init_83 : decode cX3_init 83 = .ok (.putfield 32, 3) := by decide +kernel
theorem dX3_init_86 : decode cX3_init 86 = .ok (.aload_n 0, 1) := by decide +kernel
theorem dX3_init_87 : decode cX3_init 87 = .ok (.new 9, 3) := by decide +kernel
theorem dX3_init_90 : decode cX3_init 90 = .ok (.dup, 1) := by decide +kernel
theorem dX3_init_91 : decode cX3_init 91 = .ok (.sipush 402, 3) := by decide +kernel
theorem dX3_init_94 : decode cX3_init 94 = .ok (.invokespecial 11, 3) := by decide +kernel
theorem dX3_init_97 : decode cX3_init 97 = .ok (.putfield 35, 3) := by decide +kernel
theorem dX3_init_100 : decode cX3_init 100 = .ok (.return_, 1) := by decide +kernel
set_option maxRecDepth 20000 in
theorem ggX3_measure_X6_players : GoodIn wsX3_measure wsX6_players := goodIn_r _ [13, 14, 15, 16, 17, 12, 18, 19, 20, 21, 22, 23, 24, 25, 26, 27, 28, 29, 122, 123, 124, 125, 126, 127, 128, 129] (by decide +kernel) (by decide +kernel)
set_option maxRecDepth 20000 in
theorem gX3_measure_X6_players : GoodIn wsX3_measure (wsV RX3 38 RX6 yX6_players wsX6_players) := goodIn_app (goodIn_of _ (by decide +kernel)) ggX3_measure_X6_players
set_option maxRecDepth 20000 in
theorem ggX3_measure_X3_findYesSayers : GoodIn wsX3_measure wsX3_findYesSayers := goodIn_r _ [34, 35, 36, 37, 38, 27, 39, 29, 40, 41, 42, 12, 43, 14, 19, 15, 16, 17, 18, 20, 21, 22, 23, 24, 25, 26, 28, 44, 45, 46, 47, 48, 109, 110, 111, 112, 113, 114, 115, 116, 117, 118, 119, 120, 121, 129, 122, 123, 124, 125, 126, 127, 128] (by decide +kernel) (by decide +kernel)
set_option maxRecDepth 20000 in
theorem gX3_measure_X3_findYesSayers : GoodIn wsX3_measure (wsV RX3 51 RX3 yX3_findYesSayers wsX3_findYesSayers) := goodIn_app (goodIn_of _ (by decide +kernel)) ggX3_measure_X3_findYesSayers
set_option maxRecDepth 20000 in
theorem ggX3_measure_X3_findStrengths : GoodIn wsX3_measure wsX3_findStrengths := goodIn_r _ [52, 53, 35, 36, 37, 38, 27, 39, 29, 54, 55, 56, 12, 57, 14, 44, 25, 26, 28, 58, 59, 60, 61, 62, 63, 64, 65, 66, 67, 68, 24, 69, 70, 71, 72, 73, 74, 75, 76, 77, 78, 79, 80, 81, 82, 83, 45, 46, 47, 48, 109, 110, 111, 112, 113, 114, 115, 116, 117, 118, 119, 120, 121, 129, 122, 123, 124, 125, 126, 127, 128] (by decide +kernel) (by decide +kernel)
set_option maxRecDepth 20000 in
theorem gX3_measure_X3_findStrengths : GoodIn wsX3_measure (wsV RX3 55 RX3 yX3_findStrengths wsX3_findStrengths) := goodIn_app (goodIn_of _ (by decide +kernel)) ggX3_measure_X3_findStrengths
set_option maxRecDepth 20000 in
theorem ggX3_measure_X4_empty : GoodIn wsX3_measure wsX4_empty := goodIn_r _ [39, 29, 129] (by decide +kernel) (by decide +kernel)
set_option maxRecDepth 20000 in
theorem gX3_measure_X4_empty : GoodIn wsX3_measure (wsV RX3 70 RX4 yX4_empty wsX4_empty) := goodIn_app (goodIn_of _ (by decide +kernel)) ggX3_measure_X4_empty
set_option maxRecDepth 20000 in
theorem ggX3_measure_X3_isSetOfPlayers : GoodIn wsX3_measure wsX3_isSetOfPlayers := goodIn_r _ [87, 1, 109, 110, 111, 112, 113, 114, 115, 116, 117, 118, 119, 120, 121] (by decide +kernel) (by decide +kernel)
set_option maxRecDepth 20000 in
theorem gX3_measure_X3_isSetOfPlayers : GoodIn wsX3_measure (wsV RX3 73 RX3 yX3_isSetOfPlayers wsX3_isSetOfPlayers) := goodIn_app (goodIn_of _ (by decide +kernel)) ggX3_measure_X3_isSetOfPlayers
set_option maxRecDepth 20000 in
theorem ggX3_measure_X3_isWinning : GoodIn wsX3_measure wsX3_isWinning := goodIn_r _ [91, 53, 2, 44, 25, 26, 27, 28, 29, 109, 110, 111, 112, 113, 114, 115, 116, 117, 118, 119, 120, 121, 129] (by decide +kernel) (by decide +kernel)
set_option maxRecDepth 20000 in
theorem gX3_measure_X3_isWinning : GoodIn wsX3_measure (wsV RX3 77 RX3 yX3_isWinning wsX3_isWinning) := goodIn_app (goodIn_of _ (by decide +kernel)) ggX3_measure_X3_isWinning
set_option maxRecDepth 20000 in
theorem ggX3_measure_X3_countWinning : GoodIn wsX3_measure wsX3_countWinning := goodIn_r _ [95, 3, 4, 7, 8, 6, 96, 5, 97, 70, 71, 72, 73, 74, 75, 98, 77, 99, 100, 101, 102, 103, 33, 104, 1, 76, 78, 88, 89, 90, 91, 53, 2, 44, 25, 26, 27, 28, 29, 105, 106, 107, 108, 45, 46, 47, 48, 109, 110, 111, 112, 113, 114, 115, 116, 117, 118, 119, 120, 121, 129] (by decide +kernel) (by decide +kernel)
set_option maxRecDepth 20000 in
theorem gX3_measure_X3_countWinning : GoodIn wsX3_measure (wsV RX3 80 RX3 yX3_countWinning wsX3_countWinning) := goodIn_app (goodIn_of _ (by decide +kernel)) ggX3_measure_X3_countWinning
theorem dX3_measure_0 : decode cX3_measure 0 = .ok (.aload_n 0, 1) := by decide +kernel
theorem dX3_measure_1 : decode cX3_measure 1 = .ok (.aload_n 1, 1) := by decide +kernel
theorem dX3_measure_2 : decode cX3_measure 2 = .ok (.invokevirtual 38, 3) := by decide +kernel
theorem dX3_measure_5 : decode cX3_measure 5 = .ok (.putfield 44, 3) := by decide +kernel
theorem dX3_measure_8 : decode cX3_measure 8 = .ok (.aload_n 0, 1) := by decide +kernel
theorem dX3_measure_9 : decode cX3_measure 9 = .ok (.aload_n 1, 1) := by decide +kernel
theorem dX3_measure_10 : decode cX3_measure 10 = .ok (.getfield 47, 3) := by decide +kernel
theorem dX3_measure_13 : decode cX3_measure 13 = .ok (.putfield 50, 3) := by decide +kernel
theorem dX3_measure_16 : decode cX3_measure 16 = .ok (.aload_n 0, 1) := by decide +kernel
theorem dX3_measure_17 : decode cX3_measure 17 = .ok (.aload_n 1, 1) := by decide +kernel
theorem dX3_measure_18 : decode cX3_measure 18 = .ok (.invokevirtual 51, 3) := by decide +kernel
theorem dX3_measure_21 : decode cX3_measure 21 = .ok (.aload_n 0, 1) := by decide +kernel
theorem dX3_measure_22 : decode cX3_measure 22 = .ok (.aload_n 1, 1) := by decide +kernel
theorem dX3_measure_23 : decode cX3_measure 23 = .ok (.invokevirtual 55, 3) := by decide +kernel
theorem dX3_measure_26 : decode cX3_measure 26 = .ok (.aload_n 0, 1) := by decide +kernel
theorem dX3_measure_27 : decode cX3_measure 27 = .ok (.iconst 0, 1) := by decide +kernel
theorem dX3_measure_28 : decode cX3_measure 28 = .ok (.putfield 58, 3) := by decide +kernel
theorem dX3_measure_31 : decode cX3_measure 31 = .ok (.aload_n 0, 1) := by decide +kernel
theorem dX3_measure_32 : decode cX3_measure 32 = .ok (.aload_n 0, 1) := by decide +kernel
theorem dX3_measure_33 : decode cX3_measure 33 = .ok (.getfield 44, 3) := by decide +kernel
theorem dX3_measure_36 : decode cX3_measure 36 = .ok (.putfield 61, 3) := by decide +kernel
theorem dX3_measure_39 : decode cX3_measure 39 = .ok (.aload_n 0, 1) := by decide +kernel
theorem dX3_measure_40 : decode cX3_measure 40 = .ok (.iconst 0, 1) := by decide +kernel
theorem dX3_measure_41 : decode cX3_measure 41 = .ok (.putfield 64, 3) := by decide +kernel
theorem dX3_measure_44 : decode cX3_measure 44 = .ok (.aload_n 0, 1) := by decide +kernel
theorem dX3_measure_45 : decode cX3_measure 45 = .ok (.iconst 0, 1) := by decide +kernel
theorem dX3_measure_46 : decode cX3_measure 46 = .ok (.putfield 67, 3) := by decide +kernel
theorem dX3_measure_49 : decode cX3_measure 49 = .ok (.aload_n 0, 1) := by decide +kernel
theorem dX3_measure_50 : decode cX3_measure 50 = .ok (.getfield 26, 3) := by decide +kernel
theorem dX3_measure_53 : decode cX3_measure 53 = .ok (.invokevirtual 70, 3) := by decide +kernel
theorem dX3_measure_56 : decode cX3_measure 56 = .ok (.aload_n 0, 1) := by decide +kernel
theorem dX3_measure_57 : decode cX3_measure 57 = .ok (.getfield 29, 3) := by decide +kernel
theorem dX3_measure_60 : decode cX3_measure 60 = .ok (.invokevirtual 70, 3) := by decide +kernel
theorem dX3_measure_63 : decode cX3_measure 63 = .ok (.iconst 0, 1) := by decide +kernel
theorem dX3_measure_64 : decode cX3_measure 64 = .ok (.istore_n 2, 1) := by decide +kernel
theorem dX3_measure_65 : decode cX3_measure 65 = .ok (.iload_n 2, 1) := by decide +kernel
theorem dX3_measure_66 : decode cX3_measure 66 = .ok (.sipush 256, 3) := by decide +kernel
theorem dX3_measure_69 : decode cX3_measure 69 = .ok (.if_icmp .ge 30, 3) := by decide +kernel
theorem dX3_measure_72 : decode cX3_measure 72 = .ok (.aload_n 0, 1) := by decide +kernel
theorem dX3_measure_73 : decode cX3_measure 73 = .ok (.iload_n 2, 1) := by decide +kernel
theorem dX3_measure_74 : decode cX3_measure 74 = .ok (.invokevirtual 73, 3) := by decide +kernel
theorem dX3_measure_77 : decode cX3_measure 77 = .ok (.ifCond .eq 16, 3) := by decide +kernel
theorem dX3_measure_80 : decode cX3_measure 80 = .ok (.aload_n 0, 1) := by decide +kernel
theorem dX3_measure_81 : decode cX3_measure 81 = .ok (.iload_n 2, 1) := by decide +kernel
theorem dX3_measure_82 : decode cX3_measure 82 = .ok (.invokevirtual 77, 3) := by decide +kernel
theorem dX3_measure_85 : decode cX3_measure 85 = .ok (.ifCond .eq 8, 3) := by decide +kernel
theorem dX3_measure_88 : decode cX3_measure 88 = .ok (.aload_n 0, 1) := by decide +kernel
theorem dX3_measure_89 : decode cX3_measure 89 = .ok (.iload_n 2, 1) := by decide +kernel
theorem dX3_measure_90 : decode cX3_measure 90 = .ok (.invokevirtual 80, 3) := by decide +kernel
theorem dX3_measure_93 : decode cX3_measure 93 = .ok (.iinc 2 1, 3) := by decide +kernel
theorem dX3_measure_96 : decode cX3_measure 96 = .ok (.goto (-31), 3) := by decide +kernel
theorem dX3_measure_99 : decode cX3_measure 99 = .ok (.return_, 1) := by decide +kernel
set_option maxRecDepth 20000 in
theorem ggX3_findYesSayers_X4_empty : GoodIn wsX3_findYesSayers wsX4_empty := goodIn_r _ [6, 7, 45] (by decide +kernel) (by decide +kernel)
set_option maxRecDepth 20000 in
theorem gX3_findYesSayers_X4_empty : GoodIn wsX3_findYesSayers (wsV RX3 70 RX4 yX4_empty wsX4_empty) := goodIn_app (goodIn_of _ (by decide +kernel)) ggX3_findYesSayers_X4_empty
set_option maxRecDepth 20000 in
theorem ggX3_findYesSayers_X6_blocOf : GoodIn wsX3_findYesSayers wsX6_blocOf := goodIn_r _ [12, 13, 14, 15, 16, 17, 11, 18, 19, 20, 21, 22, 23, 24, 25, 5, 26, 7, 46, 47, 48, 49, 50, 51, 52, 45] (by decide +kernel) (by decide +kernel)
set_option maxRecDepth 20000 in
theorem gX3_findYesSayers_X6_blocOf : GoodIn wsX3_findYesSayers (wsV RX3 83 RX6 yX6_blocOf wsX6_blocOf) := goodIn_app (goodIn_of _ (by decide +kernel)) ggX3_findYesSayers_X6_blocOf
set_option maxRecDepth 20000 in
theorem ggX3_findYesSayers_X4_at : GoodIn wsX3_findYesSayers wsX4_at := goodIn_r _ [26, 7, 45] (by decide +kernel) (by decide +kernel)
set_option maxRecDepth 20000 in
theorem gX3_findYesSayers_X4_at : GoodIn wsX3_findYesSayers (wsV RX3 87 RX4 yX4_at wsX4_at) := goodIn_app (goodIn_of _ (by decide +kernel)) ggX3_findYesSayers_X4_at
set_option maxRecDepth 20000 in
theorem ggX3_findYesSayers_X4_put : GoodIn wsX3_findYesSayers wsX4_put := goodIn_r _ [31, 7, 45] (by decide +kernel) (by decide +kernel)
set_option maxRecDepth 20000 in
theorem gX3_findYesSayers_X4_put : GoodIn wsX3_findYesSayers (wsV RX3 90 RX4 yX4_put wsX4_put) := goodIn_app (goodIn_of _ (by decide +kernel)) ggX3_findYesSayers_X4_put
theorem dX3_findYesSayers_0 : decode cX3_findYesSayers 0 = .ok (.aload_n 0, 1) := by decide +kernel
theorem dX3_findYesSayers_1 : decode cX3_findYesSayers 1 = .ok (.getfield 14, 3) := by decide +kernel
theorem dX3_findYesSayers_4 : decode cX3_findYesSayers 4 = .ok (.invokevirtual 70, 3) := by decide +kernel
theorem dX3_findYesSayers_7 : decode cX3_findYesSayers 7 = .ok (.iconst 0, 1) := by decide +kernel
theorem dX3_findYesSayers_8 : decode cX3_findYesSayers 8 = .ok (.istore_n 2, 1) := by decide +kernel
theorem dX3_findYesSayers_9 : decode cX3_findYesSayers 9 = .ok (.iload_n 2, 1) := by decide +kernel
theorem dX3_findYesSayers_10 : decode cX3_findYesSayers 10 = .ok (.bipush 8, 2) := by decide +kernel
theorem dX3_findYesSayers_12 : decode cX3_findYesSayers 12 = .ok (.if_icmp .ge 58, 3) := by decide +kernel
theorem dX3_findYesSayers_15 : decode cX3_findYesSayers 15 = .ok (.aload_n 1, 1) := by decide +kernel
theorem dX3_findYesSayers_16 : decode cX3_findYesSayers 16 = .ok (.iload_n 2, 1) := by decide +kernel
theorem dX3_findYesSayers_17 : decode cX3_findYesSayers 17 = .ok (.invokevirtual 83, 3) := by decide +kernel
theorem dX3_findYesSayers_20 : decode cX3_findYesSayers 20 = .ok (.istore_n 3, 1) := by decide +kernel
theorem dX3_findYesSayers_21 : decode cX3_findYesSayers 21 = .ok (.iconst 1, 1) := by decide +kernel
theorem dX3_findYesSayers_22 : decode cX3_findYesSayers 22 = .ok (.iload_n 2, 1) := by decide +kernel
theorem dX3_findYesSayers_23 : decode cX3_findYesSayers 23 = .ok (.ishl, 1) := by decide +kernel
theorem dX3_findYesSayers_24 : decode cX3_findYesSayers 24 = .ok (.istore 4, 2) := by decide +kernel
theorem dX3_findYesSayers_26 : decode cX3_findYesSayers 26 = .ok (.iload 4, 2) := by decide +kernel
theorem dX3_findYesSayers_28 : decode cX3_findYesSayers 28 = .ok (.iconst 2, 1) := by decide +kernel
theorem dX3_findYesSayers_29 : decode cX3_findYesSayers 29 = .ok (.iload_n 2, 1) := by decide +kernel
theorem dX3_findYesSayers_30 : decode cX3_findYesSayers 30 = .ok (.ishl, 1) := by decide +kernel
theorem dX3_findYesSayers_31 : decode cX3_findYesSayers 31 = .ok (.if_icmp .ge 33, 3) := by decide +kernel
theorem dX3_findYesSayers_34 : decode cX3_findYesSayers 34 = .ok (.aload_n 0, 1) := by decide +kernel
theorem dX3_findYesSayers_35 : decode cX3_findYesSayers 35 = .ok (.getfield 14, 3) := by decide +kernel
theorem dX3_findYesSayers_38 : decode cX3_findYesSayers 38 = .ok (.iload 4, 2) := by decide +kernel
theorem dX3_findYesSayers_40 : decode cX3_findYesSayers 40 = .ok (.aload_n 0, 1) := by decide +kernel
theorem dX3_findYesSayers_41 : decode cX3_findYesSayers 41 = .ok (.getfield 14, 3) := by decide +kernel
theorem dX3_findYesSayers_44 : decode cX3_findYesSayers 44 = .ok (.iload 4, 2) := by decide +kernel
theorem dX3_findYesSayers_46 : decode cX3_findYesSayers 46 = .ok (.iconst 1, 1) := by decide +kernel
theorem dX3_findYesSayers_47 : decode cX3_findYesSayers 47 = .ok (.iload_n 2, 1) := by decide +kernel
theorem dX3_findYesSayers_48 : decode cX3_findYesSayers 48 = .ok (.ishl, 1) := by decide +kernel
theorem dX3_findYesSayers_49 : decode cX3_findYesSayers 49 = .ok (.isub, 1) := by decide +kernel
theorem dX3_findYesSayers_50 : decode cX3_findYesSayers 50 = .ok (.invokevirtual 87, 3) := by decide +kernel
theorem dX3_findYesSayers_53 : decode cX3_findYesSayers 53 = .ok (.iload_n 3, 1) := by decide +kernel
theorem dX3_findYesSayers_54 : decode cX3_findYesSayers 54 = .ok (.ior, 1) := by decide +kernel
theorem dX3_findYesSayers_55 : decode cX3_findYesSayers 55 = .ok (.invokevirtual 90, 3) := by decide +kernel
theorem dX3_findYesSayers_58 : decode cX3_findYesSayers 58 = .ok (.iinc 4 1, 3) := by decide +kernel
theorem dX3_findYesSayers_61 : decode cX3_findYesSayers 61 = .ok (.goto (-35), 3) := by decide +kernel
theorem dX3_findYesSayers_64 : decode cX3_findYesSayers 64 = .ok (.iinc 2 1, 3) := by decide +kernel
theorem dX3_findYesSayers_67 : decode cX3_findYesSayers 67 = .ok (.goto (-58), 3) := by decide +kernel
theorem dX3_findYesSayers_70 : decode cX3_findYesSayers 70 = .ok (.return_, 1) := by decide +kernel
set_option maxRecDepth 20000 in
theorem ggX3_findStrengths_X4_empty : GoodIn wsX3_findStrengths wsX4_empty := goodIn_r _ [7, 8, 63] (by decide +kernel) (by decide +kernel)
set_option maxRecDepth 20000 in
theorem gX3_findStrengths_X4_empty : GoodIn wsX3_findStrengths (wsV RX3 70 RX4 yX4_empty wsX4_empty) := goodIn_app (goodIn_of _ (by decide +kernel)) ggX3_findStrengths_X4_empty
set_option maxRecDepth 20000 in
theorem ggX3_findStrengths_X6_everybody : GoodIn wsX3_findStrengths wsX6_everybody := goodIn_r _ [13, 14, 64, 65, 66, 67, 68, 69, 70] (by decide +kernel) (by decide +kernel)
set_option maxRecDepth 20000 in
theorem gX3_findStrengths_X6_everybody : GoodIn wsX3_findStrengths (wsV RX3 94 RX6 yX6_everybody wsX6_everybody) := goodIn_app (goodIn_of _ (by decide +kernel)) ggX3_findStrengths_X6_everybody
set_option maxRecDepth 20000 in
theorem ggX3_findStrengths_X4_at : GoodIn wsX3_findStrengths wsX4_at := goodIn_r _ [18, 8, 63] (by decide +kernel) (by decide +kernel)
set_option maxRecDepth 20000 in
theorem gX3_findStrengths_X4_at : GoodIn wsX3_findStrengths (wsV RX3 87 RX4 yX4_at wsX4_at) := goodIn_app (goodIn_of _ (by decide +kernel)) ggX3_findStrengths_X4_at
set_option maxRecDepth 20000 in
theorem ggX3_findStrengths_X6_firstBrokenRule : GoodIn wsX3_findStrengths wsX6_firstBrokenRule := goodIn_r _ [22, 23, 24, 25, 26, 12, 27, 28, 29, 30, 16, 17, 6, 18, 8, 31, 32, 33, 34, 35, 36, 37, 38, 39, 40, 64, 65, 66, 67, 68, 69, 70, 63] (by decide +kernel) (by decide +kernel)
set_option maxRecDepth 20000 in
theorem gX3_findStrengths_X6_firstBrokenRule : GoodIn wsX3_findStrengths (wsV RX3 97 RX6 yX6_firstBrokenRule wsX6_firstBrokenRule) := goodIn_app (goodIn_of _ (by decide +kernel)) ggX3_findStrengths_X6_firstBrokenRule
set_option maxRecDepth 20000 in
theorem ggX3_findStrengths_X6_weightOf : GoodIn wsX3_findStrengths wsX6_weightOf := goodIn_r _ [44, 14, 45, 38, 39, 40, 30, 16, 17, 6, 18, 8, 64, 65, 66, 67, 68, 69, 70, 63] (by decide +kernel) (by decide +kernel)
set_option maxRecDepth 20000 in
theorem gX3_findStrengths_X6_weightOf : GoodIn wsX3_findStrengths (wsV RX3 100 RX6 yX6_weightOf wsX6_weightOf) := goodIn_app (goodIn_of _ (by decide +kernel)) ggX3_findStrengths_X6_weightOf
set_option maxRecDepth 20000 in
theorem ggX3_findStrengths_X4_put : GoodIn wsX3_findStrengths wsX4_put := goodIn_r _ [49, 8, 63] (by decide +kernel) (by decide +kernel)
set_option maxRecDepth 20000 in
theorem gX3_findStrengths_X4_put : GoodIn wsX3_findStrengths (wsV RX3 90 RX4 yX4_put wsX4_put) := goodIn_app (goodIn_of _ (by decide +kernel)) ggX3_findStrengths_X4_put
theorem dX3_findStrengths_0 : decode cX3_findStrengths 0 = .ok (.aload_n 0, 1) := by decide +kernel
theorem dX3_findStrengths_1 : decode cX3_findStrengths 1 = .ok (.getfield 20, 3) := by decide +kernel
theorem dX3_findStrengths_4 : decode cX3_findStrengths 4 = .ok (.invokevirtual 70, 3) := by decide +kernel
theorem dX3_findStrengths_7 : decode cX3_findStrengths 7 = .ok (.aload_n 1, 1) := by decide +kernel
theorem dX3_findStrengths_8 : decode cX3_findStrengths 8 = .ok (.invokevirtual 94, 3) := by decide +kernel
theorem dX3_findStrengths_11 : decode cX3_findStrengths 11 = .ok (.istore_n 2, 1) := by decide +kernel
theorem dX3_findStrengths_12 : decode cX3_findStrengths 12 = .ok (.iconst 0, 1) := by decide +kernel
theorem dX3_findStrengths_13 : decode cX3_findStrengths 13 = .ok (.istore_n 3, 1) := by decide +kernel
theorem dX3_findStrengths_14 : decode cX3_findStrengths 14 = .ok (.iload_n 3, 1) := by decide +kernel
theorem dX3_findStrengths_15 : decode cX3_findStrengths 15 = .ok (.iload_n 2, 1) := by decide +kernel
theorem dX3_findStrengths_16 : decode cX3_findStrengths 16 = .ok (.if_icmp .gt 54, 3) := by decide +kernel
theorem dX3_findStrengths_19 : decode cX3_findStrengths 19 = .ok (.iload_n 3, 1) := by decide +kernel
theorem dX3_findStrengths_20 : decode cX3_findStrengths 20 = .ok (.sipush 256, 3) := by decide +kernel
theorem dX3_findStrengths_23 : decode cX3_findStrengths 23 = .ok (.if_icmp .ge 47, 3) := by decide +kernel
theorem dX3_findStrengths_26 : decode cX3_findStrengths 26 = .ok (.aload_n 0, 1) := by decide +kernel
theorem dX3_findStrengths_27 : decode cX3_findStrengths 27 = .ok (.getfield 14, 3) := by decide +kernel
theorem dX3_findStrengths_30 : decode cX3_findStrengths 30 = .ok (.iload_n 3, 1) := by decide +kernel
theorem dX3_findStrengths_31 : decode cX3_findStrengths 31 = .ok (.invokevirtual 87, 3) := by decide +kernel
theorem dX3_findStrengths_34 : decode cX3_findStrengths 34 = .ok (.istore 4, 2) := by decide +kernel
theorem dX3_findStrengths_36 : decode cX3_findStrengths 36 = .ok (.aload_n 0, 1) := by decide +kernel
theorem dX3_findStrengths_37 : decode cX3_findStrengths 37 = .ok (.getfield 20, 3) := by decide +kernel
theorem dX3_findStrengths_40 : decode cX3_findStrengths 40 = .ok (.iload_n 3, 1) := by decide +kernel
theorem dX3_findStrengths_41 : decode cX3_findStrengths 41 = .ok (.aload_n 1, 1) := by decide +kernel
theorem dX3_findStrengths_42 : decode cX3_findStrengths 42 = .ok (.iload 4, 2) := by decide +kernel
theorem dX3_findStrengths_44 : decode cX3_findStrengths 44 = .ok (.invokevirtual 97, 3) := by decide +kernel
theorem dX3_findStrengths_47 : decode cX3_findStrengths 47 = .ok (.iconst (-1), 1) := by decide +kernel
theorem dX3_findStrengths_48 : decode cX3_findStrengths 48 = .ok (.if_icmp .ne 12, 3) := by decide +kernel
theorem dX3_findStrengths_51 : decode cX3_findStrengths 51 = .ok (.aload_n 1, 1) := by decide +kernel
theorem dX3_findStrengths_52 : decode cX3_findStrengths 52 = .ok (.iload 4, 2) := by decide +kernel
theorem dX3_findStrengths_54 : decode cX3_findStrengths 54 = .ok (.invokevirtual 100, 3) := by decide +kernel
theorem dX3_findStrengths_57 : decode cX3_findStrengths 57 = .ok (.goto 4, 3) := by decide +kernel
theorem dX3_findStrengths_60 : decode cX3_findStrengths 60 = .ok (.iconst 0, 1) := by decide +kernel
theorem dX3_findStrengths_61 : decode cX3_findStrengths 61 = .ok (.invokevirtual 90, 3) := by decide +kernel
theorem dX3_findStrengths_64 : decode cX3_findStrengths 64 = .ok (.iinc 3 1, 3) := by decide +kernel
theorem dX3_findStrengths_67 : decode cX3_findStrengths 67 = .ok (.goto (-53), 3) := by decide +kernel
theorem dX3_findStrengths_70 : decode cX3_findStrengths 70 = .ok (.return_, 1) := by decide +kernel
set_option maxRecDepth 20000 in
theorem ggX3_countWinning_J6_bitCount_0f7a4 : GoodIn wsX3_countWinning wsJ6_bitCount_0f7a4 := goodIn_r _ [11, 12, 13, 14] (by decide +kernel) (by decide +kernel)
set_option maxRecDepth 20000 in
theorem gX3_countWinning_J6_bitCount_0f7a4 : GoodIn wsX3_countWinning (va_wsS RX3 103 yJ6_bitCount_0f7a4 wsJ6_bitCount_0f7a4) := goodIn_app (goodIn_of _ (by decide +kernel)) ggX3_countWinning_J6_bitCount_0f7a4
set_option maxRecDepth 20000 in
theorem ggX3_countWinning_X7_factorial : GoodIn wsX3_countWinning wsX7_factorial := goodIn_r _ [17, 18] (by decide +kernel) (by decide +kernel)
set_option maxRecDepth 20000 in
theorem gX3_countWinning_X7_factorial_n108 : GoodIn wsX3_countWinning (wsX7_factorial) := ggX3_countWinning_X7_factorial
set_option maxRecDepth 20000 in
theorem ggX3_countWinning_X3_playerCount : GoodIn wsX3_countWinning wsX3_playerCount := goodIn_r _ [23, 24, 8, 9, 10, 11, 12, 13, 14, 47, 48, 49, 50, 51, 52, 53, 54, 55, 56, 57, 58, 59] (by decide +kernel) (by decide +kernel)
set_option maxRecDepth 20000 in
theorem gX3_countWinning_X3_playerCount : GoodIn wsX3_countWinning (wsV RX3 111 RX3 yX3_playerCount wsX3_playerCount) := goodIn_app (goodIn_of _ (by decide +kernel)) ggX3_countWinning_X3_playerCount
set_option maxRecDepth 20000 in
theorem ggX3_countWinning_X7_contains : GoodIn wsX3_countWinning wsX7_contains := goodIn_r _ [26] (by decide +kernel) (by decide +kernel)
set_option maxRecDepth 20000 in
theorem gX3_countWinning_X7_contains_n114 : GoodIn wsX3_countWinning (wsX7_contains) := ggX3_countWinning_X7_contains
set_option maxRecDepth 20000 in
theorem ggX3_countWinning_X3_isWinning : GoodIn wsX3_countWinning wsX3_isWinning := goodIn_r _ [30, 31, 32, 33, 34, 35, 36, 37, 38, 47, 48, 49, 50, 51, 52, 53, 54, 55, 56, 57, 58, 59, 60] (by decide +kernel) (by decide +kernel)
set_option maxRecDepth 20000 in
theorem gX3_countWinning_X3_isWinning : GoodIn wsX3_countWinning (wsV RX3 77 RX3 yX3_isWinning wsX3_isWinning) := goodIn_app (goodIn_of _ (by decide +kernel)) ggX3_countWinning_X3_isWinning
set_option maxRecDepth 20000 in
theorem ggX3_countWinning_X4_raise : GoodIn wsX3_countWinning wsX4_raise := goodIn_r _ [42, 38, 60] (by decide +kernel) (by decide +kernel)
set_option maxRecDepth 20000 in
theorem gX3_countWinning_X4_raise : GoodIn wsX3_countWinning (wsV RX3 118 RX4 yX4_raise wsX4_raise) := goodIn_app (goodIn_of _ (by decide +kernel)) ggX3_countWinning_X4_raise
set_option maxRecDepth 20000 in
theorem ggX3_countWinning_X4_put : GoodIn wsX3_countWinning wsX4_put := goodIn_r _ [46, 38, 60] (by decide +kernel) (by decide +kernel)
set_option maxRecDepth 20000 in
theorem gX3_countWinning_X4_put : GoodIn wsX3_countWinning (wsV RX3 90 RX4 yX4_put wsX4_put) := goodIn_app (goodIn_of _ (by decide +kernel)) ggX3_countWinning_X4_put
theorem dX3_countWinning_0 : decode cX3_countWinning 0 = .ok (.aload_n 0, 1) := by decide +kernel
theorem dX3_countWinning_1 : decode cX3_countWinning 1 = .ok (.dup, 1) := by decide +kernel
theorem dX3_countWinning_2 : decode cX3_countWinning 2 = .ok (.getfield 58, 3) := by decide +kernel
theorem dX3_countWinning_5 : decode cX3_countWinning 5 = .ok (.iconst 1, 1) := by decide +kernel
theorem dX3_countWinning_6 : decode cX3_countWinning 6 = .ok (.iadd, 1) := by decide +kernel
theorem dX3_countWinning_7 : decode cX3_countWinning 7 = .ok (.putfield 58, 3) := by decide +kernel
theorem dX3_countWinning_10 : decode cX3_countWinning 10 = .ok (.aload_n 0, 1) := by decide +kernel
theorem dX3_countWinning_11 : decode cX3_countWinning 11 = .ok (.dup, 1) := by decide +kernel
theorem dX3_countWinning_12 : decode cX3_countWinning 12 = .ok (.getfield 61, 3) := by decide +kernel
theorem dX3_countWinning_15 : decode cX3_countWinning 15 = .ok (.iload_n 1, 1) := by decide +kernel
theorem dX3_countWinning_16 : decode cX3_countWinning 16 = .ok (.iand, 1) := by decide +kernel
theorem dX3_countWinning_17 : decode cX3_countWinning 17 = .ok (.putfield 61, 3) := by decide +kernel
theorem dX3_countWinning_20 : decode cX3_countWinning 20 = .ok (.iload_n 1, 1) := by decide +kernel
theorem dX3_countWinning_21 : decode cX3_countWinning 21 = .ok (.invokestatic 103, 3) := by decide +kernel
theorem dX3_countWinning_24 : decode cX3_countWinning 24 = .ok (.istore_n 2, 1) := by decide +kernel
theorem dX3_countWinning_25 : decode cX3_countWinning 25 = .ok (.iload_n 2, 1) := by decide +kernel
theorem dX3_countWinning_26 : decode cX3_countWinning 26 = .ok (.iconst 1, 1) := by decide +kernel
theorem dX3_countWinning_27 : decode cX3_countWinning 27 = .ok (.isub, 1) := by decide +kernel
theorem dX3_countWinning_28 : decode cX3_countWinning 28 = .ok (.invokestatic 108, 3) := by decide +kernel
theorem dX3_countWinning_31 : decode cX3_countWinning 31 = .ok (.aload_n 0, 1) := by decide +kernel
theorem dX3_countWinning_32 : decode cX3_countWinning 32 = .ok (.invokevirtual 111, 3) := by decide +kernel
theorem dX3_countWinning_35 : decode cX3_countWinning 35 = .ok (.iload_n 2, 1) := by decide +kernel
theorem dX3_countWinning_36 : decode cX3_countWinning 36 = .ok (.isub, 1) := by decide +kernel
theorem dX3_countWinning_37 : decode cX3_countWinning 37 = .ok (.invokestatic 108, 3) := by decide +kernel
theorem dX3_countWinning_40 : decode cX3_countWinning 40 = .ok (.imul, 1) := by decide +kernel
theorem dX3_countWinning_41 : decode cX3_countWinning 41 = .ok (.istore_n 3, 1) := by decide +kernel
theorem dX3_countWinning_42 : decode cX3_countWinning 42 = .ok (.iconst 0, 1) := by decide +kernel
theorem dX3_countWinning_43 : decode cX3_countWinning 43 = .ok (.istore 4, 2) := by decide +kernel
theorem dX3_countWinning_45 : decode cX3_countWinning 45 = .ok (.iconst 0, 1) := by decide +kernel
theorem dX3_countWinning_46 : decode cX3_countWinning 46 = .ok (.istore 5, 2) := by decide +kernel
theorem dX3_countWinning_48 : decode cX3_countWinning 48 = .ok (.iload 5, 2) := by decide +kernel
theorem dX3_countWinning_50 : decode cX3_countWinning 50 = .ok (.bipush 8, 2) := by decide +kernel
theorem dX3_countWinning_52 : decode cX3_countWinning 52 = .ok (.if_icmp .ge 56, 3) := by decide +kernel
theorem dX3_countWinning_55 : decode cX3_countWinning 55 = .ok (.iload_n 1, 1) := by decide +kernel
theorem dX3_countWinning_56 : decode cX3_countWinning 56 = .ok (.iload 5, 2) := by decide +kernel
theorem dX3_countWinning_58 : decode cX3_countWinning 58 = .ok (.invokestatic 114, 3) := by decide +kernel
theorem dX3_countWinning_61 : decode cX3_countWinning 61 = .ok (.ifCond .eq 41, 3) := by decide +kernel
theorem dX3_countWinning_64 : decode cX3_countWinning 64 = .ok (.aload_n 0, 1) := by decide +kernel
theorem dX3_countWinning_65 : decode cX3_countWinning 65 = .ok (.iload_n 1, 1) := by decide +kernel
theorem dX3_countWinning_66 : decode cX3_countWinning 66 = .ok (.iconst 1, 1) := by decide +kernel
theorem dX3_countWinning_67 : decode cX3_countWinning 67 = .ok (.iload 5, 2) := by decide +kernel
theorem dX3_countWinning_69 : decode cX3_countWinning 69 = .ok (.ishl, 1) := by decide +kernel
theorem dX3_countWinning_70 : decode cX3_countWinning 70 = .ok (.iconst (-1), 1) := by decide +kernel
theorem dX3_countWinning_71 : decode cX3_countWinning 71 = .ok (.ixor, 1) := by decide +kernel
theorem dX3_countWinning_72 : decode cX3_countWinning 72 = .ok (.iand, 1) := by decide +kernel
theorem dX3_countWinning_73 : decode cX3_countWinning 73 = .ok (.invokevirtual 77, 3) := by decide +kernel
theorem dX3_countWinning_76 : decode cX3_countWinning 76 = .ok (.ifCond .ne 26, 3) := by decide +kernel
theorem dX3_countWinning_79 : decode cX3_countWinning 79 = .ok (.iinc 4 1, 3) := by decide +kernel
theorem dX3_countWinning_82 : decode cX3_countWinning 82 = .ok (.aload_n 0, 1) := by decide +kernel
theorem dX3_countWinning_83 : decode cX3_countWinning 83 = .ok (.getfield 26, 3) := by decide +kernel
theorem dX3_countWinning_86 : decode cX3_countWinning 86 = .ok (.iload 5, 2) := by decide +kernel
theorem dX3_countWinning_88 : decode cX3_countWinning 88 = .ok (.iconst 1, 1) := by decide +kernel
theorem dX3_countWinning_89 : decode cX3_countWinning 89 = .ok (.invokevirtual 118, 3) := by decide +kernel
theorem dX3_countWinning_92 : decode cX3_countWinning 92 = .ok (.aload_n 0, 1) := by decide +kernel
theorem dX3_countWinning_93 : decode cX3_countWinning 93 = .ok (.getfield 29, 3) := by decide +kernel
theorem dX3_countWinning_96 : decode cX3_countWinning 96 = .ok (.iload 5, 2) := by decide +kernel
theorem dX3_countWinning_98 : decode cX3_countWinning 98 = .ok (.iload_n 3, 1) := by decide +kernel
theorem dX3_countWinning_99 : decode cX3_countWinning 99 = .ok (.invokevirtual 118, 3) := by decide +kernel
theorem dX3_countWinning_102 : decode cX3_countWinning 102 = .ok (.iinc 5 1, 3) := by decide +kernel
theorem dX3_countWinning_105 : decode cX3_countWinning 105 = .ok (.goto (-57), 3) := by decide +kernel
theorem dX3_countWinning_108 : decode cX3_countWinning 108 = .ok (.aload_n 0, 1) := by decide +kernel
theorem dX3_countWinning_109 : decode cX3_countWinning 109 = .ok (.dup, 1) := by decide +kernel
theorem dX3_countWinning_110 : decode cX3_countWinning 110 = .ok (.getfield 67, 3) := by decide +kernel
theorem dX3_countWinning_113 : decode cX3_countWinning 113 = .ok (.iload 4, 2) := by decide +kernel
theorem dX3_countWinning_115 : decode cX3_countWinning 115 = .ok (.iadd, 1) := by decide +kernel
theorem dX3_countWinning_116 : decode cX3_countWinning 116 = .ok (.putfield 67, 3) := by decide +kernel
theorem dX3_countWinning_119 : decode cX3_countWinning 119 = .ok (.iload 4, 2) := by decide +kernel
theorem dX3_countWinning_121 : decode cX3_countWinning 121 = .ok (.iload_n 2, 1) := by decide +kernel
theorem dX3_countWinning_122 : decode cX3_countWinning 122 = .ok (.if_icmp .ne 25, 3) := by decide +kernel
theorem dX3_countWinning_125 : decode cX3_countWinning 125 = .ok (.aload_n 0, 1) := by decide +kernel
theorem dX3_countWinning_126 : decode cX3_countWinning 126 = .ok (.getfield 23, 3) := by decide +kernel
theorem dX3_countWinning_129 : decode cX3_countWinning 129 = .ok (.aload_n 0, 1) := by decide +kernel
theorem dX3_countWinning_130 : decode cX3_countWinning 130 = .ok (.getfield 64, 3) := by decide +kernel
theorem dX3_countWinning_133 : decode cX3_countWinning 133 = .ok (.iload_n 1, 1) := by decide +kernel
theorem dX3_countWinning_134 : decode cX3_countWinning 134 = .ok (.invokevirtual 90, 3) := by decide +kernel
theorem dX3_countWinning_137 : decode cX3_countWinning 137 = .ok (.aload_n 0, 1) := by decide +kernel
theorem dX3_countWinning_138 : decode cX3_countWinning 138 = .ok (.dup, 1) := by decide +kernel
theorem dX3_countWinning_139 : decode cX3_countWinning 139 = .ok (.getfield 64, 3) := by decide +kernel
theorem dX3_countWinning_142 : decode cX3_countWinning 142 = .ok (.iconst 1, 1) := by decide +kernel
theorem dX3_countWinning_143 : decode cX3_countWinning 143 = .ok (.iadd, 1) := by decide +kernel
theorem dX3_countWinning_144 : decode cX3_countWinning 144 = .ok (.putfield 64, 3) := by decide +kernel
theorem dX3_countWinning_147 : decode cX3_countWinning 147 = .ok (.return_, 1) := by decide +kernel
theorem dX3_isSetOfPlayers_0 : decode cX3_isSetOfPlayers 0 = .ok (.iload_n 1, 1) := by decide +kernel
theorem dX3_isSetOfPlayers_1 : decode cX3_isSetOfPlayers 1 = .ok (.aload_n 0, 1) := by decide +kernel
theorem dX3_isSetOfPlayers_2 : decode cX3_isSetOfPlayers 2 = .ok (.getfield 44, 3) := by decide +kernel
theorem dX3_isSetOfPlayers_5 : decode cX3_isSetOfPlayers 5 = .ok (.iconst (-1), 1) := by decide +kernel
theorem dX3_isSetOfPlayers_6 : decode cX3_isSetOfPlayers 6 = .ok (.ixor, 1) := by decide +kernel
theorem dX3_isSetOfPlayers_7 : decode cX3_isSetOfPlayers 7 = .ok (.iand, 1) := by decide +kernel
theorem dX3_isSetOfPlayers_8 : decode cX3_isSetOfPlayers 8 = .ok (.ifCond .ne 7, 3) := by decide +kernel
theorem dX3_isSetOfPlayers_11 : decode cX3_isSetOfPlayers 11 = .ok (.iconst 1, 1) := by decide +kernel
theorem dX3_isSetOfPlayers_12 : decode cX3_isSetOfPlayers 12 = .ok (.goto 4, 3) := by decide +kernel
theorem dX3_isSetOfPlayers_15 : decode cX3_isSetOfPlayers 15 = .ok (.iconst 0, 1) := by decide +kernel
theorem dX3_isSetOfPlayers_16 : decode cX3_isSetOfPlayers 16 = .ok (.ireturn, 1) := by decide +kernel
set_option maxRecDepth 20000 in
theorem ggX3_isWinning_X4_at : GoodIn wsX3_isWinning wsX4_at := goodIn_r _ [7, 8, 22] (by decide +kernel) (by decide +kernel)
set_option maxRecDepth 20000 in
theorem gX3_isWinning_X4_at : GoodIn wsX3_isWinning (wsV RX3 87 RX4 yX4_at wsX4_at) := goodIn_app (goodIn_of _ (by decide +kernel)) ggX3_isWinning_X4_at
theorem dX3_isWinning_0 : decode cX3_isWinning 0 = .ok (.aload_n 0, 1) := by decide +kernel
theorem dX3_isWinning_1 : decode cX3_isWinning 1 = .ok (.getfield 20, 3) := by decide +kernel
theorem dX3_isWinning_4 : decode cX3_isWinning 4 = .ok (.iload_n 1, 1) := by decide +kernel
theorem dX3_isWinning_5 : decode cX3_isWinning 5 = .ok (.invokevirtual 87, 3) := by decide +kernel
theorem dX3_isWinning_8 : decode cX3_isWinning 8 = .ok (.aload_n 0, 1) := by decide +kernel
theorem dX3_isWinning_9 : decode cX3_isWinning 9 = .ok (.getfield 50, 3) := by decide +kernel
theorem dX3_isWinning_12 : decode cX3_isWinning 12 = .ok (.if_icmp .lt 7, 3) := by decide +kernel
theorem dX3_isWinning_15 : decode cX3_isWinning 15 = .ok (.iconst 1, 1) := by decide +kernel
theorem dX3_isWinning_16 : decode cX3_isWinning 16 = .ok (.goto 4, 3) := by decide +kernel
theorem dX3_isWinning_19 : decode cX3_isWinning 19 = .ok (.iconst 0, 1) := by decide +kernel
theorem dX3_isWinning_20 : decode cX3_isWinning 20 = .ok (.ireturn, 1) := by decide +kernel
set_option maxRecDepth 20000 in
theorem ggX3_playerCount_J6_bitCount_0f7a4 : GoodIn wsX3_playerCount wsJ6_bitCount_0f7a4 := goodIn_r _ [5, 6, 7, 8] (by decide +kernel) (by decide +kernel)
set_option maxRecDepth 20000 in
theorem gX3_playerCount_J6_bitCount_0f7a4 : GoodIn wsX3_playerCount (va_wsS RX3 103 yJ6_bitCount_0f7a4 wsJ6_bitCount_0f7a4) := goodIn_app (goodIn_of _ (by decide +kernel)) ggX3_playerCount_J6_bitCount_0f7a4
theorem dX3_playerCount_0 : decode cX3_playerCount 0 = .ok (.aload_n 0, 1) := by decide +kernel
theorem dX3_playerCount_1 : decode cX3_playerCount 1 = .ok (.getfield 44, 3) := by decide +kernel
theorem dX3_playerCount_4 : decode cX3_playerCount 4 = .ok (.invokestatic 103, 3) := by decide +kernel
theorem dX3_playerCount_7 : decode cX3_playerCount 7 = .ok (.ireturn, 1) := by decide +kernel
set_option maxRecDepth 20000 in
theorem ggX3_dummies_X7_contains : GoodIn wsX3_dummies wsX7_contains := goodIn_r _ [5] (by decide +kernel) (by decide +kernel)
set_option maxRecDepth 20000 in
theorem gX3_dummies_X7_contains_n114 : GoodIn wsX3_dummies (wsX7_contains) := ggX3_dummies_X7_contains
set_option maxRecDepth 20000 in
theorem ggX3_dummies_X4_at : GoodIn wsX3_dummies wsX4_at := goodIn_r _ [10, 11, 25] (by decide +kernel) (by decide +kernel)
set_option maxRecDepth 20000 in
theorem gX3_dummies_X4_at : GoodIn wsX3_dummies (wsV RX3 87 RX4 yX4_at wsX4_at) := goodIn_app (goodIn_of _ (by decide +kernel)) ggX3_dummies_X4_at
theorem dX3_dummies_0 : decode cX3_dummies 0 = .ok (.iconst 0, 1) := by decide +kernel
theorem dX3_dummies_1 : decode cX3_dummies 1 = .ok (.istore_n 1, 1) := by decide +kernel
theorem dX3_dummies_2 : decode cX3_dummies 2 = .ok (.iconst 0, 1) := by decide +kernel
theorem dX3_dummies_3 : decode cX3_dummies 3 = .ok (.istore_n 2, 1) := by decide +kernel
theorem dX3_dummies_4 : decode cX3_dummies 4 = .ok (.iload_n 2, 1) := by decide +kernel
theorem dX3_dummies_5 : decode cX3_dummies 5 = .ok (.bipush 8, 2) := by decide +kernel
theorem dX3_dummies_7 : decode cX3_dummies 7 = .ok (.if_icmp .ge 37, 3) := by decide +kernel
theorem dX3_dummies_10 : decode cX3_dummies 10 = .ok (.aload_n 0, 1) := by decide +kernel
theorem dX3_dummies_11 : decode cX3_dummies 11 = .ok (.getfield 44, 3) := by decide +kernel
theorem dX3_dummies_14 : decode cX3_dummies 14 = .ok (.iload_n 2, 1) := by decide +kernel
theorem dX3_dummies_15 : decode cX3_dummies 15 = .ok (.invokestatic 114, 3) := by decide +kernel
theorem dX3_dummies_18 : decode cX3_dummies 18 = .ok (.ifCond .eq 20, 3) := by decide +kernel
theorem dX3_dummies_21 : decode cX3_dummies 21 = .ok (.aload_n 0, 1) := by decide +kernel
theorem dX3_dummies_22 : decode cX3_dummies 22 = .ok (.getfield 26, 3) := by decide +kernel
theorem dX3_dummies_25 : decode cX3_dummies 25 = .ok (.iload_n 2, 1) := by decide +kernel
theorem dX3_dummies_26 : decode cX3_dummies 26 = .ok (.invokevirtual 87, 3) := by decide +kernel
theorem dX3_dummies_29 : decode cX3_dummies 29 = .ok (.ifCond .ne 9, 3) := by decide +kernel
theorem dX3_dummies_32 : decode cX3_dummies 32 = .ok (.iload_n 1, 1) := by decide +kernel
theorem dX3_dummies_33 : decode cX3_dummies 33 = .ok (.iconst 1, 1) := by decide +kernel
theorem dX3_dummies_34 : decode cX3_dummies 34 = .ok (.iload_n 2, 1) := by decide +kernel
theorem dX3_dummies_35 : decode cX3_dummies 35 = .ok (.ishl, 1) := by decide +kernel
theorem dX3_dummies_36 : decode cX3_dummies 36 = .ok (.ior, 1) := by decide +kernel
theorem dX3_dummies_37 : decode cX3_dummies 37 = .ok (.istore_n 1, 1) := by decide +kernel
theorem dX3_dummies_38 : decode cX3_dummies 38 = .ok (.iinc 2 1, 3) := by decide +kernel
theorem dX3_dummies_41 : decode cX3_dummies 41 = .ok (.goto (-37), 3) := by decide +kernel
theorem dX3_dummies_44 : decode cX3_dummies 44 = .ok (.iload_n 1, 1) := by decide +kernel
theorem dX3_dummies_45 : decode cX3_dummies 45 = .ok (.ireturn, 1) := by decide +kernel
theorem dX3_needed_0 : decode cX3_needed 0 = .ok (.aload_n 0, 1) := by decide +kernel
theorem dX3_needed_1 : decode cX3_needed 1 = .ok (.getfield 58, 3) := by decide +kernel
theorem dX3_needed_4 : decode cX3_needed 4 = .ok (.ifCond .le 10, 3) := by decide +kernel
theorem dX3_needed_7 : decode cX3_needed 7 = .ok (.aload_n 0, 1) := by decide +kernel
theorem dX3_needed_8 : decode cX3_needed 8 = .ok (.getfield 61, 3) := by decide +kernel
theorem dX3_needed_11 : decode cX3_needed 11 = .ok (.goto 4, 3) := by decide +kernel
theorem dX3_needed_14 : decode cX3_needed 14 = .ok (.iconst 0, 1) := by decide +kernel
theorem dX3_needed_15 : decode cX3_needed 15 = .ok (.ireturn, 1) := by decide +kernel
set_option maxRecDepth 20000 in
theorem ggX3_memberValue_X4_at : GoodIn wsX3_memberValue wsX4_at := goodIn_r _ [7, 8, 37] (by decide +kernel) (by decide +kernel)
set_option maxRecDepth 20000 in
theorem gX3_memberValue_X4_at : GoodIn wsX3_memberValue (wsV RX3 87 RX4 yX4_at wsX4_at) := goodIn_app (goodIn_of _ (by decide +kernel)) ggX3_memberValue_X4_at
set_option maxRecDepth 20000 in
theorem ggX3_memberValue_X3_dummies : GoodIn wsX3_memberValue wsX3_dummies := goodIn_r _ [13, 14, 1, 15, 16, 17, 3, 4, 5, 6, 7, 8, 24, 25, 26, 27, 28, 29, 30, 31, 32, 33, 34, 35, 36, 37] (by decide +kernel) (by decide +kernel)
set_option maxRecDepth 20000 in
theorem gX3_memberValue_X3_dummies : GoodIn wsX3_memberValue (wsV RX3 121 RX3 yX3_dummies wsX3_dummies) := goodIn_app (goodIn_of _ (by decide +kernel)) ggX3_memberValue_X3_dummies
set_option maxRecDepth 20000 in
theorem ggX3_memberValue_X7_contains : GoodIn wsX3_memberValue wsX7_contains := goodIn_r _ [17] (by decide +kernel) (by decide +kernel)
set_option maxRecDepth 20000 in
theorem gX3_memberValue_X7_contains_n114 : GoodIn wsX3_memberValue (wsX7_contains) := ggX3_memberValue_X7_contains
set_option maxRecDepth 20000 in
theorem ggX3_memberValue_X3_needed : GoodIn wsX3_memberValue wsX3_needed := goodIn_r _ [21, 22, 23, 24, 25, 26, 27, 28, 29, 30, 31, 32, 33, 34, 35, 36] (by decide +kernel) (by decide +kernel)
set_option maxRecDepth 20000 in
theorem gX3_memberValue_X3_needed : GoodIn wsX3_memberValue (wsV RX3 124 RX3 yX3_needed wsX3_needed) := goodIn_app (goodIn_of _ (by decide +kernel)) ggX3_memberValue_X3_needed
theorem dX3_memberValue_0 : decode cX3_memberValue 0 = .ok (.iload_n 2, 1) := by decide +kernel
theorem dX3_memberValue_1 : decode cX3_memberValue 1 = .ok (.tableswitch 62 4 6 #[27, 36, 45], 27) := by decide +kernel
theorem dX3_memberValue_28 : decode cX3_memberValue 28 = .ok (.aload_n 0, 1) := by decide +kernel
theorem dX3_memberValue_29 : decode cX3_memberValue 29 = .ok (.getfield 26, 3) := by decide +kernel
theorem dX3_memberValue_32 : decode cX3_memberValue 32 = .ok (.iload_n 1, 1) := by decide +kernel
theorem dX3_memberValue_33 : decode cX3_memberValue 33 = .ok (.invokevirtual 87, 3) := by decide +kernel
theorem dX3_memberValue_36 : decode cX3_memberValue 36 = .ok (.ireturn, 1) := by decide +kernel
theorem dX3_memberValue_37 : decode cX3_memberValue 37 = .ok (.aload_n 0, 1) := by decide +kernel
theorem dX3_memberValue_38 : decode cX3_memberValue 38 = .ok (.getfield 29, 3) := by decide +kernel
theorem dX3_memberValue_41 : decode cX3_memberValue 41 = .ok (.iload_n 1, 1) := by decide +kernel
theorem dX3_memberValue_42 : decode cX3_memberValue 42 = .ok (.invokevirtual 87, 3) := by decide +kernel
theorem dX3_memberValue_45 : decode cX3_memberValue 45 = .ok (.ireturn, 1) := by decide +kernel
theorem dX3_memberValue_46 : decode cX3_memberValue 46 = .ok (.aload_n 0, 1) := by decide +kernel
theorem dX3_memberValue_47 : decode cX3_memberValue 47 = .ok (.invokevirtual 121, 3) := by decide +kernel
theorem dX3_memberValue_50 : decode cX3_memberValue 50 = .ok (.iload_n 1, 1) := by decide +kernel
theorem dX3_memberValue_51 : decode cX3_memberValue 51 = .ok (.invokestatic 114, 3) := by decide +kernel
theorem dX3_memberValue_54 : decode cX3_memberValue 54 = .ok (.ifCond .eq 7, 3) := by decide +kernel
theorem dX3_memberValue_57 : decode cX3_memberValue 57 = .ok (.iconst 1, 1) := by decide +kernel
theorem dX3_memberValue_58 : decode cX3_memberValue 58 = .ok (.goto 4, 3) := by decide +kernel
theorem dX3_memberValue_61 : decode cX3_memberValue 61 = .ok (.iconst 0, 1) := by decide +kernel
theorem dX3_memberValue_62 : decode cX3_memberValue 62 = .ok (.ireturn, 1) := by decide +kernel
theorem dX3_memberValue_63 : decode cX3_memberValue 63 = .ok (.aload_n 0, 1) := by decide +kernel
theorem dX3_memberValue_64 : decode cX3_memberValue 64 = .ok (.invokevirtual 124, 3) := by decide +kernel
theorem dX3_memberValue_67 : decode cX3_memberValue 67 = .ok (.iload_n 1, 1) := by decide +kernel
theorem dX3_memberValue_68 : decode cX3_memberValue 68 = .ok (.invokestatic 114, 3) := by decide +kernel
theorem dX3_memberValue_71 : decode cX3_memberValue 71 = .ok (.ifCond .eq 7, 3) := by decide +kernel
theorem dX3_memberValue_74 : decode cX3_memberValue 74 = .ok (.iconst 1, 1) := by decide +kernel
theorem dX3_memberValue_75 : decode cX3_memberValue 75 = .ok (.goto 4, 3) := by decide +kernel
theorem dX3_memberValue_78 : decode cX3_memberValue 78 = .ok (.iconst 0, 1) := by decide +kernel
theorem dX3_memberValue_79 : decode cX3_memberValue 79 = .ok (.ireturn, 1) := by decide +kernel
set_option maxRecDepth 20000 in
theorem ggX3_wholeValue_X3_dummies : GoodIn wsX3_wholeValue wsX3_dummies := goodIn_r _ [8, 9, 10, 11, 12, 13, 14, 15, 16, 17, 18, 19, 25, 26, 27, 28, 29, 30, 31, 32, 33, 34, 35, 36, 37, 38] (by decide +kernel) (by decide +kernel)
set_option maxRecDepth 20000 in
theorem gX3_wholeValue_X3_dummies : GoodIn wsX3_wholeValue (wsV RX3 121 RX3 yX3_dummies wsX3_dummies) := goodIn_app (goodIn_of _ (by decide +kernel)) ggX3_wholeValue_X3_dummies
set_option maxRecDepth 20000 in
theorem ggX3_wholeValue_X3_needed : GoodIn wsX3_wholeValue wsX3_needed := goodIn_r _ [23, 1, 24, 25, 26, 27, 28, 29, 30, 31, 32, 33, 34, 35, 36, 37] (by decide +kernel) (by decide +kernel)
set_option maxRecDepth 20000 in
theorem gX3_wholeValue_X3_needed : GoodIn wsX3_wholeValue (wsV RX3 124 RX3 yX3_needed wsX3_needed) := goodIn_app (goodIn_of _ (by decide +kernel)) ggX3_wholeValue_X3_needed
theorem dX3_wholeValue_0 : decode cX3_wholeValue 0 = .ok (.iload_n 1, 1) := by decide +kernel
theorem dX3_wholeValue_1 : decode cX3_wholeValue 1 = .ok (.tableswitch 51 5 8 #[31, 36, 41, 46], 31) := by decide +kernel
theorem dX3_wholeValue_32 : decode cX3_wholeValue 32 = .ok (.aload_n 0, 1) := by decide +kernel
theorem dX3_wholeValue_33 : decode cX3_wholeValue 33 = .ok (.getfield 58, 3) := by decide +kernel
theorem dX3_wholeValue_36 : decode cX3_wholeValue 36 = .ok (.ireturn, 1) := by decide +kernel
theorem dX3_wholeValue_37 : decode cX3_wholeValue 37 = .ok (.aload_n 0, 1) := by decide +kernel
theorem dX3_wholeValue_38 : decode cX3_wholeValue 38 = .ok (.getfield 64, 3) := by decide +kernel
theorem dX3_wholeValue_41 : decode cX3_wholeValue 41 = .ok (.ireturn, 1) := by decide +kernel
theorem dX3_wholeValue_42 : decode cX3_wholeValue 42 = .ok (.aload_n 0, 1) := by decide +kernel
theorem dX3_wholeValue_43 : decode cX3_wholeValue 43 = .ok (.getfield 67, 3) := by decide +kernel
theorem dX3_wholeValue_46 : decode cX3_wholeValue 46 = .ok (.ireturn, 1) := by decide +kernel
theorem dX3_wholeValue_47 : decode cX3_wholeValue 47 = .ok (.aload_n 0, 1) := by decide +kernel
theorem dX3_wholeValue_48 : decode cX3_wholeValue 48 = .ok (.invokevirtual 121, 3) := by decide +kernel
theorem dX3_wholeValue_51 : decode cX3_wholeValue 51 = .ok (.ireturn, 1) := by decide +kernel
theorem dX3_wholeValue_52 : decode cX3_wholeValue 52 = .ok (.aload_n 0, 1) := by decide +kernel
theorem dX3_wholeValue_53 : decode cX3_wholeValue 53 = .ok (.invokevirtual 124, 3) := by decide +kernel
theorem dX3_wholeValue_56 : decode cX3_wholeValue 56 = .ok (.ireturn, 1) := by decide +kernel
set_option maxRecDepth 20000 in
theorem ggX3_shareOf_X4_at : GoodIn wsX3_shareOf wsX4_at := goodIn_r _ [7, 8, 22] (by decide +kernel) (by decide +kernel)
set_option maxRecDepth 20000 in
theorem gX3_shareOf_X4_at : GoodIn wsX3_shareOf (wsV RX3 87 RX4 yX4_at wsX4_at) := goodIn_app (goodIn_of _ (by decide +kernel)) ggX3_shareOf_X4_at
theorem dX3_shareOf_0 : decode cX3_shareOf 0 = .ok (.aload_n 0, 1) := by decide +kernel
theorem dX3_shareOf_1 : decode cX3_shareOf 1 = .ok (.getfield 67, 3) := by decide +kernel
theorem dX3_shareOf_4 : decode cX3_shareOf 4 = .ok (.ifCond .ne 7, 3) := by decide +kernel
theorem dX3_shareOf_7 : decode cX3_shareOf 7 = .ok (.fconst 0, 1) := by decide +kernel
theorem dX3_shareOf_8 : decode cX3_shareOf 8 = .ok (.goto 18, 3) := by decide +kernel
theorem dX3_shareOf_11 : decode cX3_shareOf 11 = .ok (.aload_n 0, 1) := by decide +kernel
theorem dX3_shareOf_12 : decode cX3_shareOf 12 = .ok (.getfield 26, 3) := by decide +kernel
theorem dX3_shareOf_15 : decode cX3_shareOf 15 = .ok (.iload_n 1, 1) := by decide +kernel
theorem dX3_shareOf_16 : decode cX3_shareOf 16 = .ok (.invokevirtual 87, 3) := by decide +kernel
theorem dX3_shareOf_19 : decode cX3_shareOf 19 = .ok (.i2f, 1) := by decide +kernel
theorem dX3_shareOf_20 : decode cX3_shareOf 20 = .ok (.aload_n 0, 1) := by decide +kernel
theorem dX3_shareOf_21 : decode cX3_shareOf 21 = .ok (.getfield 67, 3) := by decide +kernel
theorem dX3_shareOf_24 : decode cX3_shareOf 24 = .ok (.i2f, 1) := by decide +kernel
theorem dX3_shareOf_25 : decode cX3_shareOf 25 = .ok (.fdiv, 1) := by decide +kernel
theorem dX3_shareOf_26 : decode cX3_shareOf 26 = .ok (.freturn, 1) := by decide +kernel
set_option maxRecDepth 20000 in
theorem ggX3_partOf_X3_playerCount : GoodIn wsX3_partOf wsX3_playerCount := goodIn_r _ [6, 7, 8, 9, 10, 11, 12, 13, 14, 25, 26, 27, 28, 29, 30, 31, 32, 33, 34, 35, 36, 37] (by decide +kernel) (by decide +kernel)
set_option maxRecDepth 20000 in
theorem gX3_partOf_X3_playerCount : GoodIn wsX3_partOf (wsV RX3 111 RX3 yX3_playerCount wsX3_playerCount) := goodIn_app (goodIn_of _ (by decide +kernel)) ggX3_partOf_X3_playerCount
set_option maxRecDepth 20000 in
theorem ggX3_partOf_X7_factorial : GoodIn wsX3_partOf wsX7_factorial := goodIn_r _ [17, 18] (by decide +kernel) (by decide +kernel)
set_option maxRecDepth 20000 in
theorem gX3_partOf_X7_factorial_n108 : GoodIn wsX3_partOf (wsX7_factorial) := ggX3_partOf_X7_factorial
set_option maxRecDepth 20000 in
theorem ggX3_partOf_X4_at : GoodIn wsX3_partOf wsX4_at := goodIn_r _ [23, 24, 38] (by decide +kernel) (by decide +kernel)
set_option maxRecDepth 20000 in
theorem gX3_partOf_X4_at : GoodIn wsX3_partOf (wsV RX3 87 RX4 yX4_at wsX4_at) := goodIn_app (goodIn_of _ (by decide +kernel)) ggX3_partOf_X4_at
theorem dX3_partOf_0 : decode cX3_partOf 0 = .ok (.aload_n 0, 1) := by decide +kernel
theorem dX3_partOf_1 : decode cX3_partOf 1 = .ok (.invokevirtual 111, 3) := by decide +kernel
theorem dX3_partOf_4 : decode cX3_partOf 4 = .ok (.invokestatic 108, 3) := by decide +kernel
theorem dX3_partOf_7 : decode cX3_partOf 7 = .ok (.istore_n 2, 1) := by decide +kernel
theorem dX3_partOf_8 : decode cX3_partOf 8 = .ok (.iload_n 2, 1) := by decide +kernel
theorem dX3_partOf_9 : decode cX3_partOf 9 = .ok (.ifCond .ne 7, 3) := by decide +kernel
theorem dX3_partOf_12 : decode cX3_partOf 12 = .ok (.dconst 0, 1) := by decide +kernel
theorem dX3_partOf_13 : decode cX3_partOf 13 = .ok (.goto 15, 3) := by decide +kernel
theorem dX3_partOf_16 : decode cX3_partOf 16 = .ok (.aload_n 0, 1) := by decide +kernel
theorem dX3_partOf_17 : decode cX3_partOf 17 = .ok (.getfield 29, 3) := by decide +kernel
theorem dX3_partOf_20 : decode cX3_partOf 20 = .ok (.iload_n 1, 1) := by decide +kernel
theorem dX3_partOf_21 : decode cX3_partOf 21 = .ok (.invokevirtual 87, 3) := by decide +kernel
theorem dX3_partOf_24 : decode cX3_partOf 24 = .ok (.i2d, 1) := by decide +kernel
theorem dX3_partOf_25 : decode cX3_partOf 25 = .ok (.iload_n 2, 1) := by decide +kernel
theorem dX3_partOf_26 : decode cX3_partOf 26 = .ok (.i2d, 1) := by decide +kernel
theorem dX3_partOf_27 : decode cX3_partOf 27 = .ok (.ddiv, 1) := by decide +kernel
theorem dX3_partOf_28 : decode cX3_partOf 28 = .ok (.dreturn, 1) := by decide +kernel
set_option maxRecDepth 20000 in
theorem ggX3_pivotOf_X3_isWinning : GoodIn wsX3_pivotOf wsX3_isWinning := goodIn_r _ [6, 7, 8, 9, 10, 11, 12, 13, 14, 15, 16, 17, 18, 19, 20, 21, 22, 23, 24, 25, 26, 27, 28] (by decide +kernel) (by decide +kernel)
set_option maxRecDepth 20000 in
theorem gX3_pivotOf_X3_isWinning : GoodIn wsX3_pivotOf (wsV RX3 77 RX3 yX3_isWinning wsX3_isWinning) := goodIn_app (goodIn_of _ (by decide +kernel)) ggX3_pivotOf_X3_isWinning
theorem dX3_pivotOf_0 : decode cX3_pivotOf 0 = .ok (.aload_n 0, 1) := by decide +kernel
theorem dX3_pivotOf_1 : decode cX3_pivotOf 1 = .ok (.getfield 44, 3) := by decide +kernel
theorem dX3_pivotOf_4 : decode cX3_pivotOf 4 = .ok (.istore_n 2, 1) := by decide +kernel
theorem dX3_pivotOf_5 : decode cX3_pivotOf 5 = .ok (.iload_n 1, 1) := by decide +kernel
theorem dX3_pivotOf_6 : decode cX3_pivotOf 6 = .ok (.istore_n 3, 1) := by decide +kernel
theorem dX3_pivotOf_7 : decode cX3_pivotOf 7 = .ok (.iconst 0, 1) := by decide +kernel
theorem dX3_pivotOf_8 : decode cX3_pivotOf 8 = .ok (.istore 4, 2) := by decide +kernel
theorem dX3_pivotOf_10 : decode cX3_pivotOf 10 = .ok (.iload 4, 2) := by decide +kernel
theorem dX3_pivotOf_12 : decode cX3_pivotOf 12 = .ok (.bipush 8, 2) := by decide +kernel
theorem dX3_pivotOf_14 : decode cX3_pivotOf 14 = .ok (.if_icmp .ge 68, 3) := by decide +kernel
theorem dX3_pivotOf_17 : decode cX3_pivotOf 17 = .ok (.iload_n 3, 1) := by decide +kernel
theorem dX3_pivotOf_18 : decode cX3_pivotOf 18 = .ok (.ifCond .le 64, 3) := by decide +kernel
theorem dX3_pivotOf_21 : decode cX3_pivotOf 21 = .ok (.iload_n 3, 1) := by decide +kernel
theorem dX3_pivotOf_22 : decode cX3_pivotOf 22 = .ok (.bipush 10, 2) := by decide +kernel
theorem dX3_pivotOf_24 : decode cX3_pivotOf 24 = .ok (.irem, 1) := by decide +kernel
theorem dX3_pivotOf_25 : decode cX3_pivotOf 25 = .ok (.iconst 1, 1) := by decide +kernel
theorem dX3_pivotOf_26 : decode cX3_pivotOf 26 = .ok (.isub, 1) := by decide +kernel
theorem dX3_pivotOf_27 : decode cX3_pivotOf 27 = .ok (.istore 5, 2) := by decide +kernel
theorem dX3_pivotOf_29 : decode cX3_pivotOf 29 = .ok (.iload 5, 2) := by decide +kernel
theorem dX3_pivotOf_31 : decode cX3_pivotOf 31 = .ok (.ifCond .ge 7, 3) := by decide +kernel
theorem dX3_pivotOf_34 : decode cX3_pivotOf 34 = .ok (.iload_n 2, 1) := by decide +kernel
theorem dX3_pivotOf_35 : decode cX3_pivotOf 35 = .ok (.goto 11, 3) := by decide +kernel
theorem dX3_pivotOf_38 : decode cX3_pivotOf 38 = .ok (.iload_n 2, 1) := by decide +kernel
theorem dX3_pivotOf_39 : decode cX3_pivotOf 39 = .ok (.iconst 1, 1) := by decide +kernel
theorem dX3_pivotOf_40 : decode cX3_pivotOf 40 = .ok (.iload 5, 2) := by decide +kernel
theorem dX3_pivotOf_42 : decode cX3_pivotOf 42 = .ok (.ishl, 1) := by decide +kernel
theorem dX3_pivotOf_43 : decode cX3_pivotOf 43 = .ok (.iconst (-1), 1) := by decide +kernel
theorem dX3_pivotOf_44 : decode cX3_pivotOf 44 = .ok (.ixor, 1) := by decide +kernel
theorem dX3_pivotOf_45 : decode cX3_pivotOf 45 = .ok (.iand, 1) := by decide +kernel
theorem dX3_pivotOf_46 : decode cX3_pivotOf 46 = .ok (.istore 6, 2) := by decide +kernel
theorem dX3_pivotOf_48 : decode cX3_pivotOf 48 = .ok (.aload_n 0, 1) := by decide +kernel
theorem dX3_pivotOf_49 : decode cX3_pivotOf 49 = .ok (.iload_n 2, 1) := by decide +kernel
theorem dX3_pivotOf_50 : decode cX3_pivotOf 50 = .ok (.invokevirtual 77, 3) := by decide +kernel
theorem dX3_pivotOf_53 : decode cX3_pivotOf 53 = .ok (.ifCond .eq 15, 3) := by decide +kernel
theorem dX3_pivotOf_56 : decode cX3_pivotOf 56 = .ok (.aload_n 0, 1) := by decide +kernel
theorem dX3_pivotOf_57 : decode cX3_pivotOf 57 = .ok (.iload 6, 2) := by decide +kernel
theorem dX3_pivotOf_59 : decode cX3_pivotOf 59 = .ok (.invokevirtual 77, 3) := by decide +kernel
theorem dX3_pivotOf_62 : decode cX3_pivotOf 62 = .ok (.ifCond .ne 6, 3) := by decide +kernel
theorem dX3_pivotOf_65 : decode cX3_pivotOf 65 = .ok (.iload 5, 2) := by decide +kernel
theorem dX3_pivotOf_67 : decode cX3_pivotOf 67 = .ok (.ireturn, 1) := by decide +kernel
theorem dX3_pivotOf_68 : decode cX3_pivotOf 68 = .ok (.iload 6, 2) := by decide +kernel
theorem dX3_pivotOf_70 : decode cX3_pivotOf 70 = .ok (.istore_n 2, 1) := by decide +kernel
theorem dX3_pivotOf_71 : decode cX3_pivotOf 71 = .ok (.iload_n 3, 1) := by decide +kernel
theorem dX3_pivotOf_72 : decode cX3_pivotOf 72 = .ok (.bipush 10, 2) := by decide +kernel
theorem dX3_pivotOf_74 : decode cX3_pivotOf 74 = .ok (.idiv, 1) := by decide +kernel
theorem dX3_pivotOf_75 : decode cX3_pivotOf 75 = .ok (.istore_n 3, 1) := by decide +kernel
theorem dX3_pivotOf_76 : decode cX3_pivotOf 76 = .ok (.iinc 4 1, 3) := by decide +kernel
theorem dX3_pivotOf_79 : decode cX3_pivotOf 79 = .ok (.goto (-69), 3) := by decide +kernel
theorem dX3_pivotOf_82 : decode cX3_pivotOf 82 = .ok (.iconst (-1), 1) := by decide +kernel
theorem dX3_pivotOf_83 : decode cX3_pivotOf 83 = .ok (.ireturn, 1) := by decide +kernel
set_option maxRecDepth 20000 in
theorem ggX3_isNeverBelow_X3_isSetOfPlayers : GoodIn wsX3_isNeverBelow wsX3_isSetOfPlayers := goodIn_r _ [5, 6, 19, 20, 21, 22, 23, 24, 25, 26, 27, 28, 29, 30, 31] (by decide +kernel) (by decide +kernel)
set_option maxRecDepth 20000 in
theorem gX3_isNeverBelow_X3_isSetOfPlayers : GoodIn wsX3_isNeverBelow (wsV RX3 73 RX3 yX3_isSetOfPlayers wsX3_isSetOfPlayers) := goodIn_app (goodIn_of _ (by decide +kernel)) ggX3_isNeverBelow_X3_isSetOfPlayers
set_option maxRecDepth 20000 in
theorem ggX3_isNeverBelow_X3_isWinning : GoodIn wsX3_isNeverBelow wsX3_isWinning := goodIn_r _ [10, 11, 12, 13, 14, 15, 16, 17, 18, 19, 20, 21, 22, 23, 24, 25, 26, 27, 28, 29, 30, 31, 32] (by decide +kernel) (by decide +kernel)
set_option maxRecDepth 20000 in
theorem gX3_isNeverBelow_X3_isWinning : GoodIn wsX3_isNeverBelow (wsV RX3 77 RX3 yX3_isWinning wsX3_isWinning) := goodIn_app (goodIn_of _ (by decide +kernel)) ggX3_isNeverBelow_X3_isWinning
theorem dX3_isNeverBelow_0 : decode cX3_isNeverBelow 0 = .ok (.iconst 1, 1) := by decide +kernel
theorem dX3_isNeverBelow_1 : decode cX3_isNeverBelow 1 = .ok (.iload_n 1, 1) := by decide +kernel
theorem dX3_isNeverBelow_2 : decode cX3_isNeverBelow 2 = .ok (.ishl, 1) := by decide +kernel
theorem dX3_isNeverBelow_3 : decode cX3_isNeverBelow 3 = .ok (.iconst 1, 1) := by decide +kernel
theorem dX3_isNeverBelow_4 : decode cX3_isNeverBelow 4 = .ok (.iload_n 2, 1) := by decide +kernel
theorem dX3_isNeverBelow_5 : decode cX3_isNeverBelow 5 = .ok (.ishl, 1) := by decide +kernel
theorem dX3_isNeverBelow_6 : decode cX3_isNeverBelow 6 = .ok (.ior, 1) := by decide +kernel
theorem dX3_isNeverBelow_7 : decode cX3_isNeverBelow 7 = .ok (.istore_n 3, 1) := by decide +kernel
theorem dX3_isNeverBelow_8 : decode cX3_isNeverBelow 8 = .ok (.iconst 0, 1) := by decide +kernel
theorem dX3_isNeverBelow_9 : decode cX3_isNeverBelow 9 = .ok (.istore 4, 2) := by decide +kernel
theorem dX3_isNeverBelow_11 : decode cX3_isNeverBelow 11 = .ok (.iload 4, 2) := by decide +kernel
theorem dX3_isNeverBelow_13 : decode cX3_isNeverBelow 13 = .ok (.sipush 256, 3) := by decide +kernel
theorem dX3_isNeverBelow_16 : decode cX3_isNeverBelow 16 = .ok (.if_icmp .ge 65, 3) := by decide +kernel
theorem dX3_isNeverBelow_19 : decode cX3_isNeverBelow 19 = .ok (.aload_n 0, 1) := by decide +kernel
theorem dX3_isNeverBelow_20 : decode cX3_isNeverBelow 20 = .ok (.iload 4, 2) := by decide +kernel
theorem dX3_isNeverBelow_22 : decode cX3_isNeverBelow 22 = .ok (.invokevirtual 73, 3) := by decide +kernel
theorem dX3_isNeverBelow_25 : decode cX3_isNeverBelow 25 = .ok (.ifCond .eq 14, 3) := by decide +kernel
theorem dX3_isNeverBelow_28 : decode cX3_isNeverBelow 28 = .ok (.iload 4, 2) := by decide +kernel
theorem dX3_isNeverBelow_30 : decode cX3_isNeverBelow 30 = .ok (.iload_n 3, 1) := by decide +kernel
theorem dX3_isNeverBelow_31 : decode cX3_isNeverBelow 31 = .ok (.iand, 1) := by decide +kernel
theorem dX3_isNeverBelow_32 : decode cX3_isNeverBelow 32 = .ok (.ifCond .ne 7, 3) := by decide +kernel
theorem dX3_isNeverBelow_35 : decode cX3_isNeverBelow 35 = .ok (.iconst 1, 1) := by decide +kernel
theorem dX3_isNeverBelow_36 : decode cX3_isNeverBelow 36 = .ok (.goto 4, 3) := by decide +kernel
theorem dX3_isNeverBelow_39 : decode cX3_isNeverBelow 39 = .ok (.iconst 0, 1) := by decide +kernel
theorem dX3_isNeverBelow_40 : decode cX3_isNeverBelow 40 = .ok (.istore 5, 2) := by decide +kernel
theorem dX3_isNeverBelow_42 : decode cX3_isNeverBelow 42 = .ok (.iload 5, 2) := by decide +kernel
theorem dX3_isNeverBelow_44 : decode cX3_isNeverBelow 44 = .ok (.ifCond .eq 31, 3) := by decide +kernel
theorem dX3_isNeverBelow_47 : decode cX3_isNeverBelow 47 = .ok (.aload_n 0, 1) := by decide +kernel
theorem dX3_isNeverBelow_48 : decode cX3_isNeverBelow 48 = .ok (.iload 4, 2) := by decide +kernel
theorem dX3_isNeverBelow_50 : decode cX3_isNeverBelow 50 = .ok (.iconst 1, 1) := by decide +kernel
theorem dX3_isNeverBelow_51 : decode cX3_isNeverBelow 51 = .ok (.iload_n 2, 1) := by decide +kernel
theorem dX3_isNeverBelow_52 : decode cX3_isNeverBelow 52 = .ok (.ishl, 1) := by decide +kernel
theorem dX3_isNeverBelow_53 : decode cX3_isNeverBelow 53 = .ok (.ior, 1) := by decide +kernel
theorem dX3_isNeverBelow_54 : decode cX3_isNeverBelow 54 = .ok (.invokevirtual 77, 3) := by decide +kernel
theorem dX3_isNeverBelow_57 : decode cX3_isNeverBelow 57 = .ok (.ifCond .eq 18, 3) := by decide +kernel
theorem dX3_isNeverBelow_60 : decode cX3_isNeverBelow 60 = .ok (.aload_n 0, 1) := by decide +kernel
theorem dX3_isNeverBelow_61 : decode cX3_isNeverBelow 61 = .ok (.iload 4, 2) := by decide +kernel
theorem dX3_isNeverBelow_63 : decode cX3_isNeverBelow 63 = .ok (.iconst 1, 1) := by decide +kernel
theorem dX3_isNeverBelow_64 : decode cX3_isNeverBelow 64 = .ok (.iload_n 1, 1) := by decide +kernel
theorem dX3_isNeverBelow_65 : decode cX3_isNeverBelow 65 = .ok (.ishl, 1) := by decide +kernel
theorem dX3_isNeverBelow_66 : decode cX3_isNeverBelow 66 = .ok (.ior, 1) := by decide +kernel
theorem dX3_isNeverBelow_67 : decode cX3_isNeverBelow 67 = .ok (.invokevirtual 77, 3) := by decide +kernel
theorem dX3_isNeverBelow_70 : decode cX3_isNeverBelow 70 = .ok (.ifCond .ne 5, 3) := by decide +kernel
theorem dX3_isNeverBelow_73 : decode cX3_isNeverBelow 73 = .ok (.iconst 0, 1) := by decide +kernel
theorem dX3_isNeverBelow_74 : decode cX3_isNeverBelow 74 = .ok (.ireturn, 1) := by decide +kernel
theorem dX3_isNeverBelow_75 : decode cX3_isNeverBelow 75 = .ok (.iinc 4 1, 3) := by decide +kernel
theorem dX3_isNeverBelow_78 : decode cX3_isNeverBelow 78 = .ok (.goto (-67), 3) := by decide +kernel
theorem dX3_isNeverBelow_81 : decode cX3_isNeverBelow 81 = .ok (.iconst 1, 1) := by decide +kernel
theorem dX3_isNeverBelow_82 : decode cX3_isNeverBelow 82 = .ok (.ireturn, 1) := by decide +kernel
set_option maxRecDepth 20000 in
theorem ggX3_bestQuotaFor_X3_findSteps : GoodIn wsX3_bestQuotaFor wsX3_findSteps := goodIn_r _ [7, 1, 2, 8, 9, 10, 11, 12, 13, 14, 15, 16, 6, 17, 18, 19, 20, 21, 22, 23, 24, 25, 26, 27, 28, 29, 30, 31, 32, 33, 34, 35, 36, 37, 38, 39, 40, 41, 42, 43, 44, 45, 46, 47, 48, 49, 50, 51, 52] (by decide +kernel) (by decide +kernel)
set_option maxRecDepth 20000 in
theorem gX3_bestQuotaFor_X3_findSteps : GoodIn wsX3_bestQuotaFor (wsV RX3 127 RX3 yX3_findSteps wsX3_findSteps) := goodIn_app (goodIn_of _ (by decide +kernel)) ggX3_bestQuotaFor_X3_findSteps
set_option maxRecDepth 20000 in
theorem ggX3_bestQuotaFor_X4_at : GoodIn wsX3_bestQuotaFor wsX4_at := goodIn_r _ [34, 13, 52] (by decide +kernel) (by decide +kernel)
set_option maxRecDepth 20000 in
theorem gX3_bestQuotaFor_X4_at : GoodIn wsX3_bestQuotaFor (wsV RX3 87 RX4 yX4_at wsX4_at) := goodIn_app (goodIn_of _ (by decide +kernel)) ggX3_bestQuotaFor_X4_at
theorem dX3_bestQuotaFor_0 : decode cX3_bestQuotaFor 0 = .ok (.aload_n 0, 1) := by decide +kernel
theorem dX3_bestQuotaFor_1 : decode cX3_bestQuotaFor 1 = .ok (.iload_n 1, 1) := by decide +kernel
theorem dX3_bestQuotaFor_2 : decode cX3_bestQuotaFor 2 = .ok (.invokevirtual 127, 3) := by decide +kernel
theorem dX3_bestQuotaFor_5 : decode cX3_bestQuotaFor 5 = .ok (.iconst 0, 1) := by decide +kernel
theorem dX3_bestQuotaFor_6 : decode cX3_bestQuotaFor 6 = .ok (.istore_n 3, 1) := by decide +kernel
theorem dX3_bestQuotaFor_7 : decode cX3_bestQuotaFor 7 = .ok (.iconst 0, 1) := by decide +kernel
theorem dX3_bestQuotaFor_8 : decode cX3_bestQuotaFor 8 = .ok (.istore 4, 2) := by decide +kernel
theorem dX3_bestQuotaFor_10 : decode cX3_bestQuotaFor 10 = .ok (.iconst (-1), 1) := by decide +kernel
theorem dX3_bestQuotaFor_11 : decode cX3_bestQuotaFor 11 = .ok (.istore 5, 2) := by decide +kernel
theorem dX3_bestQuotaFor_13 : decode cX3_bestQuotaFor 13 = .ok (.iconst 0, 1) := by decide +kernel
theorem dX3_bestQuotaFor_14 : decode cX3_bestQuotaFor 14 = .ok (.istore 6, 2) := by decide +kernel
theorem dX3_bestQuotaFor_16 : decode cX3_bestQuotaFor 16 = .ok (.iconst 1, 1) := by decide +kernel
theorem dX3_bestQuotaFor_17 : decode cX3_bestQuotaFor 17 = .ok (.istore 7, 2) := by decide +kernel
theorem dX3_bestQuotaFor_19 : decode cX3_bestQuotaFor 19 = .ok (.iconst 1, 1) := by decide +kernel
theorem dX3_bestQuotaFor_20 : decode cX3_bestQuotaFor 20 = .ok (.istore 8, 2) := by decide +kernel
theorem dX3_bestQuotaFor_22 : decode cX3_bestQuotaFor 22 = .ok (.iload 8, 2) := by decide +kernel
theorem dX3_bestQuotaFor_24 : decode cX3_bestQuotaFor 24 = .ok (.sipush 400, 3) := by decide +kernel
theorem dX3_bestQuotaFor_27 : decode cX3_bestQuotaFor 27 = .ok (.if_icmp .gt 64, 3) := by decide +kernel
theorem dX3_bestQuotaFor_30 : decode cX3_bestQuotaFor 30 = .ok (.iload 8, 2) := by decide +kernel
theorem dX3_bestQuotaFor_32 : decode cX3_bestQuotaFor 32 = .ok (.iload_n 2, 1) := by decide +kernel
theorem dX3_bestQuotaFor_33 : decode cX3_bestQuotaFor 33 = .ok (.if_icmp .gt 58, 3) := by decide +kernel
theorem dX3_bestQuotaFor_36 : decode cX3_bestQuotaFor 36 = .ok (.iload_n 3, 1) := by decide +kernel
theorem dX3_bestQuotaFor_37 : decode cX3_bestQuotaFor 37 = .ok (.aload_n 0, 1) := by decide +kernel
theorem dX3_bestQuotaFor_38 : decode cX3_bestQuotaFor 38 = .ok (.getfield 32, 3) := by decide +kernel
theorem dX3_bestQuotaFor_41 : decode cX3_bestQuotaFor 41 = .ok (.iload 8, 2) := by decide +kernel
theorem dX3_bestQuotaFor_43 : decode cX3_bestQuotaFor 43 = .ok (.invokevirtual 87, 3) := by decide +kernel
theorem dX3_bestQuotaFor_46 : decode cX3_bestQuotaFor 46 = .ok (.iadd, 1) := by decide +kernel
theorem dX3_bestQuotaFor_47 : decode cX3_bestQuotaFor 47 = .ok (.istore_n 3, 1) := by decide +kernel
theorem dX3_bestQuotaFor_48 : decode cX3_bestQuotaFor 48 = .ok (.iload 4, 2) := by decide +kernel
theorem dX3_bestQuotaFor_50 : decode cX3_bestQuotaFor 50 = .ok (.aload_n 0, 1) := by decide +kernel
theorem dX3_bestQuotaFor_51 : decode cX3_bestQuotaFor 51 = .ok (.getfield 35, 3) := by decide +kernel
theorem dX3_bestQuotaFor_54 : decode cX3_bestQuotaFor 54 = .ok (.iload 8, 2) := by decide +kernel
theorem dX3_bestQuotaFor_56 : decode cX3_bestQuotaFor 56 = .ok (.invokevirtual 87, 3) := by decide +kernel
theorem dX3_bestQuotaFor_59 : decode cX3_bestQuotaFor 59 = .ok (.iadd, 1) := by decide +kernel
theorem dX3_bestQuotaFor_60 : decode cX3_bestQuotaFor 60 = .ok (.istore 4, 2) := by decide +kernel
theorem dX3_bestQuotaFor_62 : decode cX3_bestQuotaFor 62 = .ok (.iload_n 3, 1) := by decide +kernel
theorem dX3_bestQuotaFor_63 : decode cX3_bestQuotaFor 63 = .ok (.iload 7, 2) := by decide +kernel
theorem dX3_bestQuotaFor_65 : decode cX3_bestQuotaFor 65 = .ok (.imul, 1) := by decide +kernel
theorem dX3_bestQuotaFor_66 : decode cX3_bestQuotaFor 66 = .ok (.iload 6, 2) := by decide +kernel
theorem dX3_bestQuotaFor_68 : decode cX3_bestQuotaFor 68 = .ok (.iload 4, 2) := by decide +kernel
theorem dX3_bestQuotaFor_70 : decode cX3_bestQuotaFor 70 = .ok (.imul, 1) := by decide +kernel
theorem dX3_bestQuotaFor_71 : decode cX3_bestQuotaFor 71 = .ok (.if_icmp .le 14, 3) := by decide +kernel
theorem dX3_bestQuotaFor_74 : decode cX3_bestQuotaFor 74 = .ok (.iload 8, 2) := by decide +kernel
theorem dX3_bestQuotaFor_76 : decode cX3_bestQuotaFor 76 = .ok (.istore 5, 2) := by decide +kernel
theorem dX3_bestQuotaFor_78 : decode cX3_bestQuotaFor 78 = .ok (.iload_n 3, 1) := by decide +kernel
theorem dX3_bestQuotaFor_79 : decode cX3_bestQuotaFor 79 = .ok (.istore 6, 2) := by decide +kernel
theorem dX3_bestQuotaFor_81 : decode cX3_bestQuotaFor 81 = .ok (.iload 4, 2) := by decide +kernel
theorem dX3_bestQuotaFor_83 : decode cX3_bestQuotaFor 83 = .ok (.istore 7, 2) := by decide +kernel
theorem dX3_bestQuotaFor_85 : decode cX3_bestQuotaFor 85 = .ok (.iinc 8 1, 3) := by decide +kernel
theorem dX3_bestQuotaFor_88 : decode cX3_bestQuotaFor 88 = .ok (.goto (-66), 3) := by decide +kernel
theorem dX3_bestQuotaFor_91 : decode cX3_bestQuotaFor 91 = .ok (.iload 5, 2) := by decide +kernel
theorem dX3_bestQuotaFor_93 : decode cX3_bestQuotaFor 93 = .ok (.ireturn, 1) := by decide +kernel
set_option maxRecDepth 20000 in
theorem ggX3_findSteps_X4_empty : GoodIn wsX3_findSteps wsX4_empty := goodIn_r _ [7, 8, 48] (by decide +kernel) (by decide +kernel)
set_option maxRecDepth 20000 in
theorem gX3_findSteps_X4_empty : GoodIn wsX3_findSteps (wsV RX3 70 RX4 yX4_empty wsX4_empty) := goodIn_app (goodIn_of _ (by decide +kernel)) ggX3_findSteps_X4_empty
set_option maxRecDepth 20000 in
theorem ggX3_findSteps_X3_isSetOfPlayers : GoodIn wsX3_findSteps wsX3_isSetOfPlayers := goodIn_r _ [13, 14, 35, 36, 37, 38, 39, 40, 41, 42, 43, 44, 45, 46, 47] (by decide +kernel) (by decide +kernel)
set_option maxRecDepth 20000 in
theorem gX3_findSteps_X3_isSetOfPlayers : GoodIn wsX3_findSteps (wsV RX3 73 RX3 yX3_isSetOfPlayers wsX3_isSetOfPlayers) := goodIn_app (goodIn_of _ (by decide +kernel)) ggX3_findSteps_X3_isSetOfPlayers
set_option maxRecDepth 20000 in
theorem ggX3_findSteps_X3_countSteps : GoodIn wsX3_findSteps wsX3_countSteps := goodIn_r _ [18, 2, 1, 19, 20, 21, 22, 23, 24, 12, 25, 26, 27, 28, 29, 6, 30, 8, 31, 32, 33, 34, 35, 36, 37, 38, 39, 40, 41, 42, 43, 44, 45, 46, 47, 48] (by decide +kernel) (by decide +kernel)
set_option maxRecDepth 20000 in
theorem gX3_findSteps_X3_countSteps : GoodIn wsX3_findSteps (wsV RX3 130 RX3 yX3_countSteps wsX3_countSteps) := goodIn_app (goodIn_of _ (by decide +kernel)) ggX3_findSteps_X3_countSteps
theorem dX3_findSteps_0 : decode cX3_findSteps 0 = .ok (.aload_n 0, 1) := by decide +kernel
theorem dX3_findSteps_1 : decode cX3_findSteps 1 = .ok (.getfield 32, 3) := by decide +kernel
theorem dX3_findSteps_4 : decode cX3_findSteps 4 = .ok (.invokevirtual 70, 3) := by decide +kernel
theorem dX3_findSteps_7 : decode cX3_findSteps 7 = .ok (.aload_n 0, 1) := by decide +kernel
theorem dX3_findSteps_8 : decode cX3_findSteps 8 = .ok (.getfield 35, 3) := by decide +kernel
theorem dX3_findSteps_11 : decode cX3_findSteps 11 = .ok (.invokevirtual 70, 3) := by decide +kernel
theorem dX3_findSteps_14 : decode cX3_findSteps 14 = .ok (.iconst 0, 1) := by decide +kernel
theorem dX3_findSteps_15 : decode cX3_findSteps 15 = .ok (.istore_n 2, 1) := by decide +kernel
theorem dX3_findSteps_16 : decode cX3_findSteps 16 = .ok (.iload_n 2, 1) := by decide +kernel
theorem dX3_findSteps_17 : decode cX3_findSteps 17 = .ok (.sipush 256, 3) := by decide +kernel
theorem dX3_findSteps_20 : decode cX3_findSteps 20 = .ok (.if_icmp .ge 23, 3) := by decide +kernel
theorem dX3_findSteps_23 : decode cX3_findSteps 23 = .ok (.aload_n 0, 1) := by decide +kernel
theorem dX3_findSteps_24 : decode cX3_findSteps 24 = .ok (.iload_n 2, 1) := by decide +kernel
theorem dX3_findSteps_25 : decode cX3_findSteps 25 = .ok (.invokevirtual 73, 3) := by decide +kernel
theorem dX3_findSteps_28 : decode cX3_findSteps 28 = .ok (.ifCond .eq 9, 3) := by decide +kernel
theorem dX3_findSteps_31 : decode cX3_findSteps 31 = .ok (.aload_n 0, 1) := by decide +kernel
theorem dX3_findSteps_32 : decode cX3_findSteps 32 = .ok (.iload_n 2, 1) := by decide +kernel
theorem dX3_findSteps_33 : decode cX3_findSteps 33 = .ok (.iload_n 1, 1) := by decide +kernel
theorem dX3_findSteps_34 : decode cX3_findSteps 34 = .ok (.invokevirtual 130, 3) := by decide +kernel
theorem dX3_findSteps_37 : decode cX3_findSteps 37 = .ok (.iinc 2 1, 3) := by decide +kernel
theorem dX3_findSteps_40 : decode cX3_findSteps 40 = .ok (.goto (-24), 3) := by decide +kernel
theorem dX3_findSteps_43 : decode cX3_findSteps 43 = .ok (.return_, 1) := by decide +kernel
set_option maxRecDepth 20000 in
theorem ggX3_countSteps_X7_contains : GoodIn wsX3_countSteps wsX7_contains := goodIn_r _ [5] (by decide +kernel) (by decide +kernel)
set_option maxRecDepth 20000 in
theorem gX3_countSteps_X7_contains_n114 : GoodIn wsX3_countSteps (wsX7_contains) := ggX3_countSteps_X7_contains
set_option maxRecDepth 20000 in
theorem ggX3_countSteps_X3_countSwung : GoodIn wsX3_countSteps wsX3_countSwung := goodIn_r _ [10, 11, 12, 13, 14, 15, 16, 17, 18, 19, 20, 21, 22, 23, 24, 25, 26, 27, 28, 29, 30, 31, 32, 33, 34, 35] (by decide +kernel) (by decide +kernel)
set_option maxRecDepth 20000 in
theorem gX3_countSteps_X3_countSwung : GoodIn wsX3_countSteps (wsV RX3 133 RX3 yX3_countSwung wsX3_countSwung) := goodIn_app (goodIn_of _ (by decide +kernel)) ggX3_countSteps_X3_countSwung
theorem dX3_countSteps_0 : decode cX3_countSteps 0 = .ok (.iconst 0, 1) := by decide +kernel
theorem dX3_countSteps_1 : decode cX3_countSteps 1 = .ok (.istore_n 3, 1) := by decide +kernel
theorem dX3_countSteps_2 : decode cX3_countSteps 2 = .ok (.iload_n 3, 1) := by decide +kernel
theorem dX3_countSteps_3 : decode cX3_countSteps 3 = .ok (.bipush 8, 2) := by decide +kernel
theorem dX3_countSteps_5 : decode cX3_countSteps 5 = .ok (.if_icmp .ge 42, 3) := by decide +kernel
theorem dX3_countSteps_8 : decode cX3_countSteps 8 = .ok (.iload_n 1, 1) := by decide +kernel
theorem dX3_countSteps_9 : decode cX3_countSteps 9 = .ok (.iload_n 3, 1) := by decide +kernel
theorem dX3_countSteps_10 : decode cX3_countSteps 10 = .ok (.invokestatic 114, 3) := by decide +kernel
theorem dX3_countSteps_13 : decode cX3_countSteps 13 = .ok (.ifCond .eq 28, 3) := by decide +kernel
theorem dX3_countSteps_16 : decode cX3_countSteps 16 = .ok (.aload_n 0, 1) := by decide +kernel
theorem dX3_countSteps_17 : decode cX3_countSteps 17 = .ok (.aload_n 0, 1) := by decide +kernel
theorem dX3_countSteps_18 : decode cX3_countSteps 18 = .ok (.getfield 35, 3) := by decide +kernel
theorem dX3_countSteps_21 : decode cX3_countSteps 21 = .ok (.iload_n 1, 1) := by decide +kernel
theorem dX3_countSteps_22 : decode cX3_countSteps 22 = .ok (.iload_n 3, 1) := by decide +kernel
theorem dX3_countSteps_23 : decode cX3_countSteps 23 = .ok (.invokevirtual 133, 3) := by decide +kernel
theorem dX3_countSteps_26 : decode cX3_countSteps 26 = .ok (.iload_n 3, 1) := by decide +kernel
theorem dX3_countSteps_27 : decode cX3_countSteps 27 = .ok (.iload_n 2, 1) := by decide +kernel
theorem dX3_countSteps_28 : decode cX3_countSteps 28 = .ok (.if_icmp .ne 13, 3) := by decide +kernel
theorem dX3_countSteps_31 : decode cX3_countSteps 31 = .ok (.aload_n 0, 1) := by decide +kernel
theorem dX3_countSteps_32 : decode cX3_countSteps 32 = .ok (.aload_n 0, 1) := by decide +kernel
theorem dX3_countSteps_33 : decode cX3_countSteps 33 = .ok (.getfield 32, 3) := by decide +kernel
theorem dX3_countSteps_36 : decode cX3_countSteps 36 = .ok (.iload_n 1, 1) := by decide +kernel
theorem dX3_countSteps_37 : decode cX3_countSteps 37 = .ok (.iload_n 3, 1) := by decide +kernel
theorem dX3_countSteps_38 : decode cX3_countSteps 38 = .ok (.invokevirtual 133, 3) := by decide +kernel
theorem dX3_countSteps_41 : decode cX3_countSteps 41 = .ok (.iinc 3 1, 3) := by decide +kernel
theorem dX3_countSteps_44 : decode cX3_countSteps 44 = .ok (.goto (-42), 3) := by decide +kernel
theorem dX3_countSteps_47 : decode cX3_countSteps 47 = .ok (.return_, 1) := by decide +kernel
set_option maxRecDepth 20000 in
theorem ggX3_countSwung_X4_at : GoodIn wsX3_countSwung wsX4_at := goodIn_r _ [6, 7, 25] (by decide +kernel) (by decide +kernel)
set_option maxRecDepth 20000 in
theorem gX3_countSwung_X4_at : GoodIn wsX3_countSwung (wsV RX3 87 RX4 yX4_at wsX4_at) := goodIn_app (goodIn_of _ (by decide +kernel)) ggX3_countSwung_X4_at
set_option maxRecDepth 20000 in
theorem ggX3_countSwung_X4_raise : GoodIn wsX3_countSwung wsX4_raise := goodIn_r _ [11, 7, 25] (by decide +kernel) (by decide +kernel)
set_option maxRecDepth 20000 in
theorem gX3_countSwung_X4_raise : GoodIn wsX3_countSwung (wsV RX3 118 RX4 yX4_raise wsX4_raise) := goodIn_app (goodIn_of _ (by decide +kernel)) ggX3_countSwung_X4_raise
theorem dX3_countSwung_0 : decode cX3_countSwung 0 = .ok (.aload_n 1, 1) := by decide +kernel
theorem dX3_countSwung_1 : decode cX3_countSwung 1 = .ok (.aload_n 0, 1) := by decide +kernel
theorem dX3_countSwung_2 : decode cX3_countSwung 2 = .ok (.getfield 20, 3) := by decide +kernel
theorem dX3_countSwung_5 : decode cX3_countSwung 5 = .ok (.iload_n 2, 1) := by decide +kernel
theorem dX3_countSwung_6 : decode cX3_countSwung 6 = .ok (.iconst 1, 1) := by decide +kernel
theorem dX3_countSwung_7 : decode cX3_countSwung 7 = .ok (.iload_n 3, 1) := by decide +kernel
theorem dX3_countSwung_8 : decode cX3_countSwung 8 = .ok (.ishl, 1) := by decide +kernel
theorem dX3_countSwung_9 : decode cX3_countSwung 9 = .ok (.iconst (-1), 1) := by decide +kernel
theorem dX3_countSwung_10 : decode cX3_countSwung 10 = .ok (.ixor, 1) := by decide +kernel
theorem dX3_countSwung_11 : decode cX3_countSwung 11 = .ok (.iand, 1) := by decide +kernel
theorem dX3_countSwung_12 : decode cX3_countSwung 12 = .ok (.invokevirtual 87, 3) := by decide +kernel
theorem dX3_countSwung_15 : decode cX3_countSwung 15 = .ok (.iconst 1, 1) := by decide +kernel
theorem dX3_countSwung_16 : decode cX3_countSwung 16 = .ok (.iadd, 1) := by decide +kernel
theorem dX3_countSwung_17 : decode cX3_countSwung 17 = .ok (.iconst 1, 1) := by decide +kernel
theorem dX3_countSwung_18 : decode cX3_countSwung 18 = .ok (.invokevirtual 118, 3) := by decide +kernel
theorem dX3_countSwung_21 : decode cX3_countSwung 21 = .ok (.aload_n 1, 1) := by decide +kernel
theorem dX3_countSwung_22 : decode cX3_countSwung 22 = .ok (.aload_n 0, 1) := by decide +kernel
theorem dX3_countSwung_23 : decode cX3_countSwung 23 = .ok (.getfield 20, 3) := by decide +kernel
theorem dX3_countSwung_26 : decode cX3_countSwung 26 = .ok (.iload_n 2, 1) := by decide +kernel
theorem dX3_countSwung_27 : decode cX3_countSwung 27 = .ok (.invokevirtual 87, 3) := by decide +kernel
theorem dX3_countSwung_30 : decode cX3_countSwung 30 = .ok (.iconst 1, 1) := by decide +kernel
theorem dX3_countSwung_31 : decode cX3_countSwung 31 = .ok (.iadd, 1) := by decide +kernel
theorem dX3_countSwung_32 : decode cX3_countSwung 32 = .ok (.iconst (-1), 1) := by decide +kernel
theorem dX3_countSwung_33 : decode cX3_countSwung 33 = .ok (.invokevirtual 118, 3) := by decide +kernel
theorem dX3_countSwung_36 : decode cX3_countSwung 36 = .ok (.return_, 1) := by decide +kernel
theorem dX4_init_0 : decode cX4_init 0 = .ok (.aload_n 0, 1) := by decide +kernel
theorem dX4_init_1 : decode cX4_init 1 = .ok (.invokespecial 1, 3) := by decide +kernel
theorem dX4_init_4 : decode cX4_init 4 = .ok (.aload_n 0, 1) := by decide +kernel
theorem dX4_init_5 : decode cX4_init 5 = .ok (.iload_n 1, 1) := by decide +kernel
theorem dX4_init_6 : decode cX4_init 6 = .ok (.ifCond .ge 7, 3) := by decide +kernel
theorem dX4_init_9 : decode cX4_init 9 = .ok (.iconst 0, 1) := by decide +kernel
theorem dX4_init_10 : decode cX4_init 10 = .ok (.goto 4, 3) := by decide +kernel
theorem dX4_init_13 : decode cX4_init 13 = .ok (.iload_n 1, 1) := by decide +kernel
theorem dX4_init_14 : decode cX4_init 14 = .ok (.newarray .int, 2) := by decide +kernel
theorem dX4_init_16 : decode cX4_init 16 = .ok (.putfield 7, 3) := by decide +kernel
theorem dX4_init_19 : decode cX4_init 19 = .ok (.return_, 1) := by decide +kernel
theorem dX4_at_0 : decode cX4_at 0 = .ok (.iload_n 1, 1) := by decide +kernel
theorem dX4_at_1 : decode cX4_at 1 = .ok (.ifCond .lt 21, 3) := by decide +kernel
theorem dX4_at_4 : decode cX4_at 4 = .ok (.iload_n 1, 1) := by decide +kernel
theorem dX4_at_5 : decode cX4_at 5 = .ok (.aload_n 0, 1) := by decide +kernel
theorem dX4_at_6 : decode cX4_at 6 = .ok (.getfield 7, 3) := by decide +kernel
theorem dX4_at_9 : decode cX4_at 9 = .ok (.arraylength, 1) := by decide +kernel
theorem dX4_at_10 : decode cX4_at 10 = .ok (.if_icmp .ge 12, 3) := by decide +kernel
theorem dX4_at_13 : decode cX4_at 13 = .ok (.aload_n 0, 1) := by decide +kernel
theorem dX4_at_14 : decode cX4_at 14 = .ok (.getfield 7, 3) := by decide +kernel
theorem dX4_at_17 : decode cX4_at 17 = .ok (.iload_n 1, 1) := by decide +kernel
theorem dX4_at_18 : decode cX4_at 18 = .ok (.iaload, 1) := by decide +kernel
theorem dX4_at_19 : decode cX4_at 19 = .ok (.goto 4, 3) := by decide +kernel
theorem dX4_at_22 : decode cX4_at 22 = .ok (.iconst 0, 1) := by decide +kernel
theorem dX4_at_23 : decode cX4_at 23 = .ok (.ireturn, 1) := by decide +kernel
theorem dX4_put_0 : decode cX4_put 0 = .ok (.iload_n 1, 1) := by decide +kernel
theorem dX4_put_1 : decode cX4_put 1 = .ok (.ifCond .lt 19, 3) := by decide +kernel
theorem dX4_put_4 : decode cX4_put 4 = .ok (.iload_n 1, 1) := by decide +kernel
theorem dX4_put_5 : decode cX4_put 5 = .ok (.aload_n 0, 1) := by decide +kernel
theorem dX4_put_6 : decode cX4_put 6 = .ok (.getfield 7, 3) := by decide +kernel
theorem dX4_put_9 : decode cX4_put 9 = .ok (.arraylength, 1) := by decide +kernel
theorem dX4_put_10 : decode cX4_put 10 = .ok (.if_icmp .ge 10, 3) := by decide +kernel
theorem dX4_put_13 : decode cX4_put 13 = .ok (.aload_n 0, 1) := by decide +kernel
theorem dX4_put_14 : decode cX4_put 14 = .ok (.getfield 7, 3) := by decide +kernel
theorem dX4_put_17 : decode cX4_put 17 = .ok (.iload_n 1, 1) := by decide +kernel
theorem dX4_put_18 : decode cX4_put 18 = .ok (.iload_n 2, 1) := by decide +kernel
theorem dX4_put_19 : decode cX4_put 19 = .ok (.iastore, 1) := by decide +kernel
theorem dX4_put_20 : decode cX4_put 20 = .ok (.return_, 1) := by decide +kernel
theorem dX4_raise_0 : decode cX4_raise 0 = .ok (.iload_n 1, 1) := by decide +kernel
theorem dX4_raise_1 : decode cX4_raise 1 = .ok (.ifCond .lt 22, 3) := by decide +kernel
theorem dX4_raise_4 : decode cX4_raise 4 = .ok (.iload_n 1, 1) := by decide +kernel
theorem dX4_raise_5 : decode cX4_raise 5 = .ok (.aload_n 0, 1) := by decide +kernel
theorem dX4_raise_6 : decode cX4_raise 6 = .ok (.getfield 7, 3) := by decide +kernel
theorem dX4_raise_9 : decode cX4_raise 9 = .ok (.arraylength, 1) := by decide +kernel
theorem dX4_raise_10 : decode cX4_raise 10 = .ok (.if_icmp .ge 13, 3) := by decide +kernel
theorem dX4_raise_13 : decode cX4_raise 13 = .ok (.aload_n 0, 1) := by decide +kernel
theorem dX4_raise_14 : decode cX4_raise 14 = .ok (.getfield 7, 3) := by decide +kernel
theorem dX4_raise_17 : decode cX4_raise 17 = .ok (.iload_n 1, 1) := by decide +kernel
theorem dX4_raise_18 : decode cX4_raise 18 = .ok (.dup2, 1) := by decide +kernel
theorem dX4_raise_19 : decode cX4_raise 19 = .ok (.iaload, 1) := by decide +kernel
theorem dX4_raise_20 : decode cX4_raise 20 = .ok (.iload_n 2, 1) := by decide +kernel
theorem dX4_raise_21 : decode cX4_raise 21 = .ok (.iadd, 1) := by decide +kernel
theorem dX4_raise_22 : decode cX4_raise 22 = .ok (.iastore, 1) := by decide +kernel
theorem dX4_raise_23 : decode cX4_raise 23 = .ok (.return_, 1) := by decide +kernel
theorem dX4_empty_0 : decode cX4_empty 0 = .ok (.iconst 0, 1) := by decide +kernel
theorem dX4_empty_1 : decode cX4_empty 1 = .ok (.istore_n 1, 1) := by decide +kernel
theorem dX4_empty_2 : decode cX4_empty 2 = .ok (.iload_n 1, 1) := by decide +kernel
theorem dX4_empty_3 : decode cX4_empty 3 = .ok (.aload_n 0, 1) := by decide +kernel
theorem dX4_empty_4 : decode cX4_empty 4 = .ok (.getfield 7, 3) := by decide +kernel
theorem dX4_empty_7 : decode cX4_empty 7 = .ok (.arraylength, 1) := by decide +kernel
theorem dX4_empty_8 : decode cX4_empty 8 = .ok (.if_icmp .ge 16, 3) := by decide +kernel
theorem dX4_empty_11 : decode cX4_empty 11 = .ok (.aload_n 0, 1) := by decide +kernel
theorem dX4_empty_12 : decode cX4_empty 12 = .ok (.getfield 7, 3) := by decide +kernel
theorem dX4_empty_15 : decode cX4_empty 15 = .ok (.iload_n 1, 1) := by decide +kernel
theorem dX4_empty_16 : decode cX4_empty 16 = .ok (.iconst 0, 1) := by decide +kernel
theorem dX4_empty_17 : decode cX4_empty 17 = .ok (.iastore, 1) := by decide +kernel
theorem dX4_empty_18 : decode cX4_empty 18 = .ok (.iinc 1 1, 3) := by decide +kernel
