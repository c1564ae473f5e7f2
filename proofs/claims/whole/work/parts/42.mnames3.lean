theorem dX8_wrongTwo_44 : decode cX8_wrongTwo 44 = .ok (.ireturn, 1) := by decide +kernel
set_option maxRecDepth 20000 in
theorem ggX8_unionGain_X8_wrongTwo : GoodIn wsX8_unionGain wsX8_wrongTwo := goodIn_r _ [7, 8, 9, 10, 6, 11, 1, 12, 13, 14, 15, 64, 65, 66, 67, 68, 69, 70, 71, 72, 73, 74, 75, 76, 77] (by decide +kernel) (by decide +kernel)
set_option maxRecDepth 20000 in
theorem gX8_unionGain_X8_wrongTwo : GoodIn wsX8_unionGain (wsV RX8 161 RX8 yX8_wrongTwo wsX8_wrongTwo) := goodIn_app (goodIn_of _ (by decide +kernel)) ggX8_unionGain_X8_wrongTwo
set_option maxRecDepth 20000 in
theorem ggX8_unionGain_X8_throwsAt : GoodIn wsX8_unionGain wsX8_throwsAt := goodIn_r _ [19, 20, 64, 65, 66, 67, 68, 69, 70, 71, 72, 73, 74, 75, 76, 77] (by decide +kernel) (by decide +kernel)
set_option maxRecDepth 20000 in
theorem gX8_unionGain_X8_throwsAt : GoodIn wsX8_unionGain (wsV RX8 97 RX8 yX8_throwsAt wsX8_throwsAt) := goodIn_app (goodIn_of _ (by decide +kernel)) ggX8_unionGain_X8_throwsAt
set_option maxRecDepth 20000 in
theorem ggX8_unionGain_X8_lays : GoodIn wsX8_unionGain wsX8_lays := goodIn_r _ [24, 25, 26, 27, 28, 29, 6, 30, 1, 12, 13, 14, 15, 8, 9, 10, 11, 31, 32, 33, 34, 35, 36, 37, 38, 39, 40, 41, 42, 43, 44, 45, 46, 47, 48, 49, 50, 51, 52, 64, 65, 66, 67, 68, 69, 70, 71, 72, 73, 74, 75, 76, 77] (by decide +kernel) (by decide +kernel)
set_option maxRecDepth 20000 in
theorem gX8_unionGain_X8_lays : GoodIn wsX8_unionGain (wsV RX8 121 RX8 yX8_lays wsX8_lays) := goodIn_app (goodIn_of _ (by decide +kernel)) ggX8_unionGain_X8_lays
set_option maxRecDepth 20000 in
theorem ggX8_unionGain_X8_partOf : GoodIn wsX8_unionGain wsX8_partOf := goodIn_r _ [56, 25, 12, 13, 14, 6, 15, 1, 8, 9, 10, 11, 57, 58, 59, 60, 26, 50, 51, 52, 39, 40, 41, 61, 62, 63, 64, 65, 66, 67, 68, 69, 70, 71, 72, 73, 74, 75, 76, 77] (by decide +kernel) (by decide +kernel)
set_option maxRecDepth 20000 in
theorem gX8_unionGain_X8_partOf : GoodIn wsX8_unionGain (wsV RX8 154 RX8 yX8_partOf wsX8_partOf) := goodIn_app (goodIn_of _ (by decide +kernel)) ggX8_unionGain_X8_partOf
theorem dX8_unionGain_0 : decode cX8_unionGain 0 = .ok (.aload_n 0, 1) := by decide +kernel
theorem dX8_unionGain_1 : decode cX8_unionGain 1 = .ok (.aload_n 0, 1) := by decide +kernel
theorem dX8_unionGain_2 : decode cX8_unionGain 2 = .ok (.iload_n 1, 1) := by decide +kernel
theorem dX8_unionGain_3 : decode cX8_unionGain 3 = .ok (.iload_n 2, 1) := by decide +kernel
theorem dX8_unionGain_4 : decode cX8_unionGain 4 = .ok (.invokevirtual 161, 3) := by decide +kernel
theorem dX8_unionGain_7 : decode cX8_unionGain 7 = .ok (.invokevirtual 97, 3) := by decide +kernel
theorem dX8_unionGain_10 : decode cX8_unionGain 10 = .ok (.ifCond .eq 5, 3) := by decide +kernel
theorem dX8_unionGain_13 : decode cX8_unionGain 13 = .ok (.dconst 0, 1) := by decide +kernel
theorem dX8_unionGain_14 : decode cX8_unionGain 14 = .ok (.dreturn, 1) := by decide +kernel
theorem dX8_unionGain_15 : decode cX8_unionGain 15 = .ok (.aload_n 0, 1) := by decide +kernel
theorem dX8_unionGain_16 : decode cX8_unionGain 16 = .ok (.aload_n 0, 1) := by decide +kernel
theorem dX8_unionGain_17 : decode cX8_unionGain 17 = .ok (.getfield 7, 3) := by decide +kernel
theorem dX8_unionGain_20 : decode cX8_unionGain 20 = .ok (.iconst 1, 1) := by decide +kernel
theorem dX8_unionGain_21 : decode cX8_unionGain 21 = .ok (.iaload, 1) := by decide +kernel
theorem dX8_unionGain_22 : decode cX8_unionGain 22 = .ok (.invokevirtual 121, 3) := by decide +kernel
theorem dX8_unionGain_25 : decode cX8_unionGain 25 = .ok (.aload_n 0, 1) := by decide +kernel
theorem dX8_unionGain_26 : decode cX8_unionGain 26 = .ok (.iload_n 1, 1) := by decide +kernel
theorem dX8_unionGain_27 : decode cX8_unionGain 27 = .ok (.invokevirtual 154, 3) := by decide +kernel
theorem dX8_unionGain_30 : decode cX8_unionGain 30 = .ok (.aload_n 0, 1) := by decide +kernel
theorem dX8_unionGain_31 : decode cX8_unionGain 31 = .ok (.iload_n 2, 1) := by decide +kernel
theorem dX8_unionGain_32 : decode cX8_unionGain 32 = .ok (.invokevirtual 154, 3) := by decide +kernel
theorem dX8_unionGain_35 : decode cX8_unionGain 35 = .ok (.dadd, 1) := by decide +kernel
theorem dX8_unionGain_36 : decode cX8_unionGain 36 = .ok (.dstore_n 3, 1) := by decide +kernel
theorem dX8_unionGain_37 : decode cX8_unionGain 37 = .ok (.iconst 0, 1) := by decide +kernel
theorem dX8_unionGain_38 : decode cX8_unionGain 38 = .ok (.istore 5, 2) := by decide +kernel
theorem dX8_unionGain_40 : decode cX8_unionGain 40 = .ok (.iload 5, 2) := by decide +kernel
theorem dX8_unionGain_42 : decode cX8_unionGain 42 = .ok (.bipush 8, 2) := by decide +kernel
theorem dX8_unionGain_44 : decode cX8_unionGain 44 = .ok (.if_icmp .ge 26, 3) := by decide +kernel
theorem dX8_unionGain_47 : decode cX8_unionGain 47 = .ok (.aload_n 0, 1) := by decide +kernel
theorem dX8_unionGain_48 : decode cX8_unionGain 48 = .ok (.getfield 26, 3) := by decide +kernel
theorem dX8_unionGain_51 : decode cX8_unionGain 51 = .ok (.iload 5, 2) := by decide +kernel
theorem dX8_unionGain_53 : decode cX8_unionGain 53 = .ok (.aload_n 0, 1) := by decide +kernel
theorem dX8_unionGain_54 : decode cX8_unionGain 54 = .ok (.getfield 7, 3) := by decide +kernel
theorem dX8_unionGain_57 : decode cX8_unionGain 57 = .ok (.bipush 11, 2) := by decide +kernel
theorem dX8_unionGain_59 : decode cX8_unionGain 59 = .ok (.iload 5, 2) := by decide +kernel
theorem dX8_unionGain_61 : decode cX8_unionGain 61 = .ok (.iadd, 1) := by decide +kernel
theorem dX8_unionGain_62 : decode cX8_unionGain 62 = .ok (.iaload, 1) := by decide +kernel
theorem dX8_unionGain_63 : decode cX8_unionGain 63 = .ok (.iastore, 1) := by decide +kernel
theorem dX8_unionGain_64 : decode cX8_unionGain 64 = .ok (.iinc 5 1, 3) := by decide +kernel
theorem dX8_unionGain_67 : decode cX8_unionGain 67 = .ok (.goto (-27), 3) := by decide +kernel
theorem dX8_unionGain_70 : decode cX8_unionGain 70 = .ok (.iconst 0, 1) := by decide +kernel
theorem dX8_unionGain_71 : decode cX8_unionGain 71 = .ok (.istore 5, 2) := by decide +kernel
theorem dX8_unionGain_73 : decode cX8_unionGain 73 = .ok (.iload 5, 2) := by decide +kernel
theorem dX8_unionGain_75 : decode cX8_unionGain 75 = .ok (.aload_n 0, 1) := by decide +kernel
theorem dX8_unionGain_76 : decode cX8_unionGain 76 = .ok (.getfield 7, 3) := by decide +kernel
theorem dX8_unionGain_79 : decode cX8_unionGain 79 = .ok (.iconst 0, 1) := by decide +kernel
theorem dX8_unionGain_80 : decode cX8_unionGain 80 = .ok (.iaload, 1) := by decide +kernel
theorem dX8_unionGain_81 : decode cX8_unionGain 81 = .ok (.if_icmp .ge 47, 3) := by decide +kernel
theorem dX8_unionGain_84 : decode cX8_unionGain 84 = .ok (.aload_n 0, 1) := by decide +kernel
theorem dX8_unionGain_85 : decode cX8_unionGain 85 = .ok (.getfield 7, 3) := by decide +kernel
theorem dX8_unionGain_88 : decode cX8_unionGain 88 = .ok (.bipush 11, 2) := by decide +kernel
theorem dX8_unionGain_90 : decode cX8_unionGain 90 = .ok (.iload 5, 2) := by decide +kernel
theorem dX8_unionGain_92 : decode cX8_unionGain 92 = .ok (.iadd, 1) := by decide +kernel
theorem dX8_unionGain_93 : decode cX8_unionGain 93 = .ok (.iload 5, 2) := by decide +kernel
theorem dX8_unionGain_95 : decode cX8_unionGain 95 = .ok (.iload_n 2, 1) := by decide +kernel
theorem dX8_unionGain_96 : decode cX8_unionGain 96 = .ok (.if_icmp .eq 14, 3) := by decide +kernel
theorem dX8_unionGain_99 : decode cX8_unionGain 99 = .ok (.aload_n 0, 1) := by decide +kernel
theorem dX8_unionGain_100 : decode cX8_unionGain 100 = .ok (.getfield 26, 3) := by decide +kernel
theorem dX8_unionGain_103 : decode cX8_unionGain 103 = .ok (.iload 5, 2) := by decide +kernel
theorem dX8_unionGain_105 : decode cX8_unionGain 105 = .ok (.iaload, 1) := by decide +kernel
theorem dX8_unionGain_106 : decode cX8_unionGain 106 = .ok (.iload_n 2, 1) := by decide +kernel
theorem dX8_unionGain_107 : decode cX8_unionGain 107 = .ok (.if_icmp .ne 7, 3) := by decide +kernel
theorem dX8_unionGain_110 : decode cX8_unionGain 110 = .ok (.iload_n 1, 1) := by decide +kernel
theorem dX8_unionGain_111 : decode cX8_unionGain 111 = .ok (.goto 10, 3) := by decide +kernel
theorem dX8_unionGain_114 : decode cX8_unionGain 114 = .ok (.aload_n 0, 1) := by decide +kernel
theorem dX8_unionGain_115 : decode cX8_unionGain 115 = .ok (.getfield 26, 3) := by decide +kernel
theorem dX8_unionGain_118 : decode cX8_unionGain 118 = .ok (.iload 5, 2) := by decide +kernel
theorem dX8_unionGain_120 : decode cX8_unionGain 120 = .ok (.iaload, 1) := by decide +kernel
theorem dX8_unionGain_121 : decode cX8_unionGain 121 = .ok (.iastore, 1) := by decide +kernel
theorem dX8_unionGain_122 : decode cX8_unionGain 122 = .ok (.iinc 5 1, 3) := by decide +kernel
theorem dX8_unionGain_125 : decode cX8_unionGain 125 = .ok (.goto (-52), 3) := by decide +kernel
theorem dX8_unionGain_128 : decode cX8_unionGain 128 = .ok (.aload_n 0, 1) := by decide +kernel
theorem dX8_unionGain_129 : decode cX8_unionGain 129 = .ok (.aload_n 0, 1) := by decide +kernel
theorem dX8_unionGain_130 : decode cX8_unionGain 130 = .ok (.getfield 7, 3) := by decide +kernel
theorem dX8_unionGain_133 : decode cX8_unionGain 133 = .ok (.iconst 1, 1) := by decide +kernel
theorem dX8_unionGain_134 : decode cX8_unionGain 134 = .ok (.iaload, 1) := by decide +kernel
theorem dX8_unionGain_135 : decode cX8_unionGain 135 = .ok (.invokevirtual 121, 3) := by decide +kernel
theorem dX8_unionGain_138 : decode cX8_unionGain 138 = .ok (.aload_n 0, 1) := by decide +kernel
theorem dX8_unionGain_139 : decode cX8_unionGain 139 = .ok (.iload_n 1, 1) := by decide +kernel
theorem dX8_unionGain_140 : decode cX8_unionGain 140 = .ok (.invokevirtual 154, 3) := by decide +kernel
theorem dX8_unionGain_143 : decode cX8_unionGain 143 = .ok (.dstore 5, 2) := by decide +kernel
theorem dX8_unionGain_145 : decode cX8_unionGain 145 = .ok (.iconst 0, 1) := by decide +kernel
theorem dX8_unionGain_146 : decode cX8_unionGain 146 = .ok (.istore 7, 2) := by decide +kernel
theorem dX8_unionGain_148 : decode cX8_unionGain 148 = .ok (.iload 7, 2) := by decide +kernel
theorem dX8_unionGain_150 : decode cX8_unionGain 150 = .ok (.bipush 8, 2) := by decide +kernel
theorem dX8_unionGain_152 : decode cX8_unionGain 152 = .ok (.if_icmp .ge 26, 3) := by decide +kernel
theorem dX8_unionGain_155 : decode cX8_unionGain 155 = .ok (.aload_n 0, 1) := by decide +kernel
theorem dX8_unionGain_156 : decode cX8_unionGain 156 = .ok (.getfield 7, 3) := by decide +kernel
theorem dX8_unionGain_159 : decode cX8_unionGain 159 = .ok (.bipush 11, 2) := by decide +kernel
theorem dX8_unionGain_161 : decode cX8_unionGain 161 = .ok (.iload 7, 2) := by decide +kernel
theorem dX8_unionGain_163 : decode cX8_unionGain 163 = .ok (.iadd, 1) := by decide +kernel
theorem dX8_unionGain_164 : decode cX8_unionGain 164 = .ok (.aload_n 0, 1) := by decide +kernel
theorem dX8_unionGain_165 : decode cX8_unionGain 165 = .ok (.getfield 26, 3) := by decide +kernel
theorem dX8_unionGain_168 : decode cX8_unionGain 168 = .ok (.iload 7, 2) := by decide +kernel
theorem dX8_unionGain_170 : decode cX8_unionGain 170 = .ok (.iaload, 1) := by decide +kernel
theorem dX8_unionGain_171 : decode cX8_unionGain 171 = .ok (.iastore, 1) := by decide +kernel
theorem dX8_unionGain_172 : decode cX8_unionGain 172 = .ok (.iinc 7 1, 3) := by decide +kernel
theorem dX8_unionGain_175 : decode cX8_unionGain 175 = .ok (.goto (-27), 3) := by decide +kernel
theorem dX8_unionGain_178 : decode cX8_unionGain 178 = .ok (.dload 5, 2) := by decide +kernel
theorem dX8_unionGain_180 : decode cX8_unionGain 180 = .ok (.dload_n 3, 1) := by decide +kernel
theorem dX8_unionGain_181 : decode cX8_unionGain 181 = .ok (.dsub, 1) := by decide +kernel
theorem dX8_unionGain_182 : decode cX8_unionGain 182 = .ok (.dreturn, 1) := by decide +kernel
set_option maxRecDepth 20000 in
theorem ggX8_compare_X8_wrongTwo : GoodIn wsX8_compare wsX8_wrongTwo := goodIn_r _ [7, 8, 9, 10, 6, 11, 1, 12, 13, 14, 15, 52, 53, 54, 55, 56, 57, 58, 59, 60, 61, 62, 63, 64, 65] (by decide +kernel) (by decide +kernel)
set_option maxRecDepth 20000 in
theorem gX8_compare_X8_wrongTwo : GoodIn wsX8_compare (wsV RX8 161 RX8 yX8_wrongTwo wsX8_wrongTwo) := goodIn_app (goodIn_of _ (by decide +kernel)) ggX8_compare_X8_wrongTwo
set_option maxRecDepth 20000 in
theorem ggX8_compare_X8_throwsAt : GoodIn wsX8_compare wsX8_throwsAt := goodIn_r _ [19, 20, 52, 53, 54, 55, 56, 57, 58, 59, 60, 61, 62, 63, 64, 65] (by decide +kernel) (by decide +kernel)
set_option maxRecDepth 20000 in
theorem gX8_compare_X8_throwsAt : GoodIn wsX8_compare (wsV RX8 97 RX8 yX8_throwsAt wsX8_throwsAt) := goodIn_app (goodIn_of _ (by decide +kernel)) ggX8_compare_X8_throwsAt
set_option maxRecDepth 20000 in
theorem ggX8_compare_X8_lays : GoodIn wsX8_compare wsX8_lays := goodIn_r _ [24, 25, 2, 26, 27, 28, 6, 29, 1, 12, 13, 14, 15, 8, 9, 10, 11, 30, 31, 32, 33, 34, 35, 36, 37, 38, 39, 40, 41, 42, 43, 44, 45, 46, 47, 48, 49, 50, 51, 52, 53, 54, 55, 56, 57, 58, 59, 60, 61, 62, 63, 64, 65] (by decide +kernel) (by decide +kernel)
set_option maxRecDepth 20000 in
theorem gX8_compare_X8_lays : GoodIn wsX8_compare (wsV RX8 121 RX8 yX8_lays wsX8_lays) := goodIn_app (goodIn_of _ (by decide +kernel)) ggX8_compare_X8_lays
set_option maxRecDepth 20000 in
theorem ggX8_compare_X8_has : GoodIn wsX8_compare wsX8_has := goodIn_r _ [40] (by decide +kernel) (by decide +kernel)
set_option maxRecDepth 20000 in
theorem gX8_compare_X8_has : GoodIn wsX8_compare (va_wsS RX8 50 yX8_has wsX8_has) := goodIn_app (goodIn_of _ (by decide +kernel)) ggX8_compare_X8_has
theorem dX8_compare_0 : decode cX8_compare 0 = .ok (.aload_n 0, 1) := by decide +kernel
theorem dX8_compare_1 : decode cX8_compare 1 = .ok (.aload_n 0, 1) := by decide +kernel
theorem dX8_compare_2 : decode cX8_compare 2 = .ok (.iload_n 1, 1) := by decide +kernel
theorem dX8_compare_3 : decode cX8_compare 3 = .ok (.iload_n 2, 1) := by decide +kernel
theorem dX8_compare_4 : decode cX8_compare 4 = .ok (.invokevirtual 161, 3) := by decide +kernel
theorem dX8_compare_7 : decode cX8_compare 7 = .ok (.invokevirtual 97, 3) := by decide +kernel
theorem dX8_compare_10 : decode cX8_compare 10 = .ok (.ifCond .eq 5, 3) := by decide +kernel
theorem dX8_compare_13 : decode cX8_compare 13 = .ok (.iconst 0, 1) := by decide +kernel
theorem dX8_compare_14 : decode cX8_compare 14 = .ok (.ireturn, 1) := by decide +kernel
theorem dX8_compare_15 : decode cX8_compare 15 = .ok (.aload_n 0, 1) := by decide +kernel
theorem dX8_compare_16 : decode cX8_compare 16 = .ok (.aload_n 0, 1) := by decide +kernel
theorem dX8_compare_17 : decode cX8_compare 17 = .ok (.getfield 7, 3) := by decide +kernel
theorem dX8_compare_20 : decode cX8_compare 20 = .ok (.iconst 1, 1) := by decide +kernel
theorem dX8_compare_21 : decode cX8_compare 21 = .ok (.iaload, 1) := by decide +kernel
theorem dX8_compare_22 : decode cX8_compare 22 = .ok (.invokevirtual 121, 3) := by decide +kernel
theorem dX8_compare_25 : decode cX8_compare 25 = .ok (.iconst 0, 1) := by decide +kernel
theorem dX8_compare_26 : decode cX8_compare 26 = .ok (.istore_n 3, 1) := by decide +kernel
theorem dX8_compare_27 : decode cX8_compare 27 = .ok (.iconst 0, 1) := by decide +kernel
theorem dX8_compare_28 : decode cX8_compare 28 = .ok (.istore 4, 2) := by decide +kernel
theorem dX8_compare_30 : decode cX8_compare 30 = .ok (.iconst 0, 1) := by decide +kernel
theorem dX8_compare_31 : decode cX8_compare 31 = .ok (.istore 5, 2) := by decide +kernel
theorem dX8_compare_33 : decode cX8_compare 33 = .ok (.iload 5, 2) := by decide +kernel
theorem dX8_compare_35 : decode cX8_compare 35 = .ok (.sipush 256, 3) := by decide +kernel
theorem dX8_compare_38 : decode cX8_compare 38 = .ok (.if_icmp .ge 95, 3) := by decide +kernel
theorem dX8_compare_41 : decode cX8_compare 41 = .ok (.iload 5, 2) := by decide +kernel
theorem dX8_compare_43 : decode cX8_compare 43 = .ok (.iload_n 1, 1) := by decide +kernel
theorem dX8_compare_44 : decode cX8_compare 44 = .ok (.invokestatic 50, 3) := by decide +kernel
theorem dX8_compare_47 : decode cX8_compare 47 = .ok (.ifCond .ne 80, 3) := by decide +kernel
theorem dX8_compare_50 : decode cX8_compare 50 = .ok (.iload 5, 2) := by decide +kernel
theorem dX8_compare_52 : decode cX8_compare 52 = .ok (.iload_n 2, 1) := by decide +kernel
theorem dX8_compare_53 : decode cX8_compare 53 = .ok (.invokestatic 50, 3) := by decide +kernel
theorem dX8_compare_56 : decode cX8_compare 56 = .ok (.ifCond .ne 71, 3) := by decide +kernel
theorem dX8_compare_59 : decode cX8_compare 59 = .ok (.aload_n 0, 1) := by decide +kernel
theorem dX8_compare_60 : decode cX8_compare 60 = .ok (.getfield 19, 3) := by decide +kernel
theorem dX8_compare_63 : decode cX8_compare 63 = .ok (.iload 5, 2) := by decide +kernel
theorem dX8_compare_65 : decode cX8_compare 65 = .ok (.iconst 1, 1) := by decide +kernel
theorem dX8_compare_66 : decode cX8_compare 66 = .ok (.iload_n 1, 1) := by decide +kernel
theorem dX8_compare_67 : decode cX8_compare 67 = .ok (.ishl, 1) := by decide +kernel
theorem dX8_compare_68 : decode cX8_compare 68 = .ok (.ior, 1) := by decide +kernel
theorem dX8_compare_69 : decode cX8_compare 69 = .ok (.baload, 1) := by decide +kernel
theorem dX8_compare_70 : decode cX8_compare 70 = .ok (.istore 6, 2) := by decide +kernel
theorem dX8_compare_72 : decode cX8_compare 72 = .ok (.aload_n 0, 1) := by decide +kernel
theorem dX8_compare_73 : decode cX8_compare 73 = .ok (.getfield 19, 3) := by decide +kernel
theorem dX8_compare_76 : decode cX8_compare 76 = .ok (.iload 5, 2) := by decide +kernel
theorem dX8_compare_78 : decode cX8_compare 78 = .ok (.iconst 1, 1) := by decide +kernel
theorem dX8_compare_79 : decode cX8_compare 79 = .ok (.iload_n 2, 1) := by decide +kernel
theorem dX8_compare_80 : decode cX8_compare 80 = .ok (.ishl, 1) := by decide +kernel
theorem dX8_compare_81 : decode cX8_compare 81 = .ok (.ior, 1) := by decide +kernel
theorem dX8_compare_82 : decode cX8_compare 82 = .ok (.baload, 1) := by decide +kernel
theorem dX8_compare_83 : decode cX8_compare 83 = .ok (.istore 7, 2) := by decide +kernel
theorem dX8_compare_85 : decode cX8_compare 85 = .ok (.iload_n 3, 1) := by decide +kernel
theorem dX8_compare_86 : decode cX8_compare 86 = .ok (.ifCond .ne 13, 3) := by decide +kernel
theorem dX8_compare_89 : decode cX8_compare 89 = .ok (.iload 6, 2) := by decide +kernel
theorem dX8_compare_91 : decode cX8_compare 91 = .ok (.ifCond .eq 12, 3) := by decide +kernel
theorem dX8_compare_94 : decode cX8_compare 94 = .ok (.iload 7, 2) := by decide +kernel
theorem dX8_compare_96 : decode cX8_compare 96 = .ok (.ifCond .ne 7, 3) := by decide +kernel
theorem dX8_compare_99 : decode cX8_compare 99 = .ok (.iconst 1, 1) := by decide +kernel
theorem dX8_compare_100 : decode cX8_compare 100 = .ok (.goto 4, 3) := by decide +kernel
theorem dX8_compare_103 : decode cX8_compare 103 = .ok (.iconst 0, 1) := by decide +kernel
theorem dX8_compare_104 : decode cX8_compare 104 = .ok (.istore_n 3, 1) := by decide +kernel
theorem dX8_compare_105 : decode cX8_compare 105 = .ok (.iload 4, 2) := by decide +kernel
theorem dX8_compare_107 : decode cX8_compare 107 = .ok (.ifCond .ne 13, 3) := by decide +kernel
theorem dX8_compare_110 : decode cX8_compare 110 = .ok (.iload 7, 2) := by decide +kernel
theorem dX8_compare_112 : decode cX8_compare 112 = .ok (.ifCond .eq 12, 3) := by decide +kernel
theorem dX8_compare_115 : decode cX8_compare 115 = .ok (.iload 6, 2) := by decide +kernel
theorem dX8_compare_117 : decode cX8_compare 117 = .ok (.ifCond .ne 7, 3) := by decide +kernel
theorem dX8_compare_120 : decode cX8_compare 120 = .ok (.iconst 1, 1) := by decide +kernel
theorem dX8_compare_121 : decode cX8_compare 121 = .ok (.goto 4, 3) := by decide +kernel
theorem dX8_compare_124 : decode cX8_compare 124 = .ok (.iconst 0, 1) := by decide +kernel
theorem dX8_compare_125 : decode cX8_compare 125 = .ok (.istore 4, 2) := by decide +kernel
theorem dX8_compare_127 : decode cX8_compare 127 = .ok (.iinc 5 1, 3) := by decide +kernel
theorem dX8_compare_130 : decode cX8_compare 130 = .ok (.goto (-97), 3) := by decide +kernel
theorem dX8_compare_133 : decode cX8_compare 133 = .ok (.iload_n 3, 1) := by decide +kernel
theorem dX8_compare_134 : decode cX8_compare 134 = .ok (.ifCond .eq 12, 3) := by decide +kernel
theorem dX8_compare_137 : decode cX8_compare 137 = .ok (.iload 4, 2) := by decide +kernel
theorem dX8_compare_139 : decode cX8_compare 139 = .ok (.ifCond .eq 7, 3) := by decide +kernel
theorem dX8_compare_142 : decode cX8_compare 142 = .ok (.iconst 2, 1) := by decide +kernel
theorem dX8_compare_143 : decode cX8_compare 143 = .ok (.goto 21, 3) := by decide +kernel
theorem dX8_compare_146 : decode cX8_compare 146 = .ok (.iload_n 3, 1) := by decide +kernel
theorem dX8_compare_147 : decode cX8_compare 147 = .ok (.ifCond .eq 7, 3) := by decide +kernel
theorem dX8_compare_150 : decode cX8_compare 150 = .ok (.iconst 1, 1) := by decide +kernel
theorem dX8_compare_151 : decode cX8_compare 151 = .ok (.goto 13, 3) := by decide +kernel
theorem dX8_compare_154 : decode cX8_compare 154 = .ok (.iload 4, 2) := by decide +kernel
theorem dX8_compare_156 : decode cX8_compare 156 = .ok (.ifCond .eq 7, 3) := by decide +kernel
theorem dX8_compare_159 : decode cX8_compare 159 = .ok (.iconst (-1), 1) := by decide +kernel
theorem dX8_compare_160 : decode cX8_compare 160 = .ok (.goto 4, 3) := by decide +kernel
theorem dX8_compare_163 : decode cX8_compare 163 = .ok (.iconst 0, 1) := by decide +kernel
theorem dX8_compare_164 : decode cX8_compare 164 = .ok (.ireturn, 1) := by decide +kernel
set_option maxRecDepth 20000 in
theorem ggX8_type_X8_in : GoodIn wsX8_type wsX8_in := goodIn_r _ [6] (by decide +kernel) (by decide +kernel)
set_option maxRecDepth 20000 in
theorem gX8_type_X8_in : GoodIn wsX8_type (va_wsS RX8 93 yX8_in wsX8_in) := goodIn_app (goodIn_of _ (by decide +kernel)) ggX8_type_X8_in
set_option maxRecDepth 20000 in
theorem ggX8_type_X8_throwsAt : GoodIn wsX8_type wsX8_throwsAt := goodIn_r _ [10, 11, 12, 13, 14, 15, 16, 17, 18, 19, 20, 21, 22, 23, 24, 25] (by decide +kernel) (by decide +kernel)
set_option maxRecDepth 20000 in
theorem gX8_type_X8_throwsAt : GoodIn wsX8_type (wsV RX8 97 RX8 yX8_throwsAt wsX8_throwsAt) := goodIn_app (goodIn_of _ (by decide +kernel)) ggX8_type_X8_throwsAt
theorem dX8_type_0 : decode cX8_type 0 = .ok (.aload_n 0, 1) := by decide +kernel
theorem dX8_type_1 : decode cX8_type 1 = .ok (.iload_n 1, 1) := by decide +kernel
theorem dX8_type_2 : decode cX8_type 2 = .ok (.iconst 0, 1) := by decide +kernel
theorem dX8_type_3 : decode cX8_type 3 = .ok (.bipush 127, 2) := by decide +kernel
theorem dX8_type_5 : decode cX8_type 5 = .ok (.invokestatic 93, 3) := by decide +kernel
theorem dX8_type_8 : decode cX8_type 8 = .ok (.ifCond .ne 7, 3) := by decide +kernel
theorem dX8_type_11 : decode cX8_type 11 = .ok (.iconst 1, 1) := by decide +kernel
theorem dX8_type_12 : decode cX8_type 12 = .ok (.goto 18, 3) := by decide +kernel
theorem dX8_type_15 : decode cX8_type 15 = .ok (.aload_n 0, 1) := by decide +kernel
theorem dX8_type_16 : decode cX8_type 16 = .ok (.getfield 141, 3) := by decide +kernel
theorem dX8_type_19 : decode cX8_type 19 = .ok (.sipush 150, 3) := by decide +kernel
theorem dX8_type_22 : decode cX8_type 22 = .ok (.if_icmp .ne 7, 3) := by decide +kernel
theorem dX8_type_25 : decode cX8_type 25 = .ok (.iconst 2, 1) := by decide +kernel
theorem dX8_type_26 : decode cX8_type 26 = .ok (.goto 4, 3) := by decide +kernel
theorem dX8_type_29 : decode cX8_type 29 = .ok (.iconst 0, 1) := by decide +kernel
theorem dX8_type_30 : decode cX8_type 30 = .ok (.invokevirtual 97, 3) := by decide +kernel
theorem dX8_type_33 : decode cX8_type 33 = .ok (.ifCond .eq 5, 3) := by decide +kernel
theorem dX8_type_36 : decode cX8_type 36 = .ok (.iconst 0, 1) := by decide +kernel
theorem dX8_type_37 : decode cX8_type 37 = .ok (.ireturn, 1) := by decide +kernel
theorem dX8_type_38 : decode cX8_type 38 = .ok (.aload_n 0, 1) := by decide +kernel
theorem dX8_type_39 : decode cX8_type 39 = .ok (.getfield 16, 3) := by decide +kernel
theorem dX8_type_42 : decode cX8_type 42 = .ok (.aload_n 0, 1) := by decide +kernel
theorem dX8_type_43 : decode cX8_type 43 = .ok (.getfield 141, 3) := by decide +kernel
theorem dX8_type_46 : decode cX8_type 46 = .ok (.iload_n 1, 1) := by decide +kernel
theorem dX8_type_47 : decode cX8_type 47 = .ok (.iastore, 1) := by decide +kernel
theorem dX8_type_48 : decode cX8_type 48 = .ok (.aload_n 0, 1) := by decide +kernel
theorem dX8_type_49 : decode cX8_type 49 = .ok (.dup, 1) := by decide +kernel
theorem dX8_type_50 : decode cX8_type 50 = .ok (.getfield 141, 3) := by decide +kernel
theorem dX8_type_53 : decode cX8_type 53 = .ok (.iconst 1, 1) := by decide +kernel
theorem dX8_type_54 : decode cX8_type 54 = .ok (.iadd, 1) := by decide +kernel
theorem dX8_type_55 : decode cX8_type 55 = .ok (.putfield 141, 3) := by decide +kernel
theorem dX8_type_58 : decode cX8_type 58 = .ok (.aload_n 0, 1) := by decide +kernel
theorem dX8_type_59 : decode cX8_type 59 = .ok (.getfield 141, 3) := by decide +kernel
theorem dX8_type_62 : decode cX8_type 62 = .ok (.ireturn, 1) := by decide +kernel
theorem dX8_clearCommands_0 : decode cX8_clearCommands 0 = .ok (.aload_n 0, 1) := by decide +kernel
theorem dX8_clearCommands_1 : decode cX8_clearCommands 1 = .ok (.iconst 0, 1) := by decide +kernel
theorem dX8_clearCommands_2 : decode cX8_clearCommands 2 = .ok (.putfield 32, 3) := by decide +kernel
theorem dX8_clearCommands_5 : decode cX8_clearCommands 5 = .ok (.aload_n 0, 1) := by decide +kernel
theorem dX8_clearCommands_6 : decode cX8_clearCommands 6 = .ok (.getfield 141, 3) := by decide +kernel
theorem dX8_clearCommands_9 : decode cX8_clearCommands 9 = .ok (.istore_n 1, 1) := by decide +kernel
theorem dX8_clearCommands_10 : decode cX8_clearCommands 10 = .ok (.aload_n 0, 1) := by decide +kernel
theorem dX8_clearCommands_11 : decode cX8_clearCommands 11 = .ok (.iconst 0, 1) := by decide +kernel
theorem dX8_clearCommands_12 : decode cX8_clearCommands 12 = .ok (.putfield 141, 3) := by decide +kernel
theorem dX8_clearCommands_15 : decode cX8_clearCommands 15 = .ok (.iload_n 1, 1) := by decide +kernel
theorem dX8_clearCommands_16 : decode cX8_clearCommands 16 = .ok (.ireturn, 1) := by decide +kernel
set_option maxRecDepth 20000 in
theorem ggX8_isAt_X8_in : GoodIn wsX8_isAt wsX8_in := goodIn_r _ [7] (by decide +kernel) (by decide +kernel)
set_option maxRecDepth 20000 in
theorem gX8_isAt_X8_in : GoodIn wsX8_isAt (va_wsS RX8 93 yX8_in wsX8_in) := goodIn_app (goodIn_of _ (by decide +kernel)) ggX8_isAt_X8_in
theorem dX8_isAt_0 : decode cX8_isAt 0 = .ok (.aload_n 0, 1) := by decide +kernel
theorem dX8_isAt_1 : decode cX8_isAt 1 = .ok (.getfield 164, 3) := by decide +kernel
theorem dX8_isAt_4 : decode cX8_isAt 4 = .ok (.aload_n 0, 1) := by decide +kernel
theorem dX8_isAt_5 : decode cX8_isAt 5 = .ok (.getfield 141, 3) := by decide +kernel
theorem dX8_isAt_8 : decode cX8_isAt 8 = .ok (.if_icmp .ge 24, 3) := by decide +kernel
theorem dX8_isAt_11 : decode cX8_isAt 11 = .ok (.aload_n 0, 1) := by decide +kernel
theorem dX8_isAt_12 : decode cX8_isAt 12 = .ok (.getfield 16, 3) := by decide +kernel
theorem dX8_isAt_15 : decode cX8_isAt 15 = .ok (.aload_n 0, 1) := by decide +kernel
theorem dX8_isAt_16 : decode cX8_isAt 16 = .ok (.getfield 164, 3) := by decide +kernel
theorem dX8_isAt_19 : decode cX8_isAt 19 = .ok (.iaload, 1) := by decide +kernel
theorem dX8_isAt_20 : decode cX8_isAt 20 = .ok (.iload_n 1, 1) := by decide +kernel
theorem dX8_isAt_21 : decode cX8_isAt 21 = .ok (.iload_n 2, 1) := by decide +kernel
theorem dX8_isAt_22 : decode cX8_isAt 22 = .ok (.invokestatic 93, 3) := by decide +kernel
theorem dX8_isAt_25 : decode cX8_isAt 25 = .ok (.ifCond .eq 7, 3) := by decide +kernel
theorem dX8_isAt_28 : decode cX8_isAt 28 = .ok (.iconst 1, 1) := by decide +kernel
theorem dX8_isAt_29 : decode cX8_isAt 29 = .ok (.goto 4, 3) := by decide +kernel
theorem dX8_isAt_32 : decode cX8_isAt 32 = .ok (.iconst 0, 1) := by decide +kernel
theorem dX8_isAt_33 : decode cX8_isAt 33 = .ok (.ireturn, 1) := by decide +kernel
set_option maxRecDepth 20000 in
theorem ggX8_skips_X8_isAt : GoodIn wsX8_skips wsX8_isAt := goodIn_r _ [6, 1, 7, 8, 9, 10, 5, 11, 12, 13, 14, 15, 16, 17, 18, 19, 20, 21, 22, 23, 24, 25] (by decide +kernel) (by decide +kernel)
set_option maxRecDepth 20000 in
theorem gX8_skips_X8_isAt : GoodIn wsX8_skips (wsV RX8 167 RX8 yX8_isAt wsX8_isAt) := goodIn_app (goodIn_of _ (by decide +kernel)) ggX8_skips_X8_isAt
theorem dX8_skips_0 : decode cX8_skips 0 = .ok (.aload_n 0, 1) := by decide +kernel
theorem dX8_skips_1 : decode cX8_skips 1 = .ok (.bipush 32, 2) := by decide +kernel
theorem dX8_skips_3 : decode cX8_skips 3 = .ok (.bipush 32, 2) := by decide +kernel
theorem dX8_skips_5 : decode cX8_skips 5 = .ok (.invokevirtual 167, 3) := by decide +kernel
theorem dX8_skips_8 : decode cX8_skips 8 = .ok (.ifCond .eq 16, 3) := by decide +kernel
theorem dX8_skips_11 : decode cX8_skips 11 = .ok (.aload_n 0, 1) := by decide +kernel
theorem dX8_skips_12 : decode cX8_skips 12 = .ok (.dup, 1) := by decide +kernel
theorem dX8_skips_13 : decode cX8_skips 13 = .ok (.getfield 164, 3) := by decide +kernel
theorem dX8_skips_16 : decode cX8_skips 16 = .ok (.iconst 1, 1) := by decide +kernel
theorem dX8_skips_17 : decode cX8_skips 17 = .ok (.iadd, 1) := by decide +kernel
theorem dX8_skips_18 : decode cX8_skips 18 = .ok (.putfield 164, 3) := by decide +kernel
theorem dX8_skips_21 : decode cX8_skips 21 = .ok (.goto (-21), 3) := by decide +kernel
theorem dX8_skips_24 : decode cX8_skips 24 = .ok (.return_, 1) := by decide +kernel
theorem dX8_wordOf_0 : decode cX8_wordOf 0 = .ok (.lconst 0, 1) := by decide +kernel
theorem dX8_wordOf_1 : decode cX8_wordOf 1 = .ok (.lstore_n 3, 1) := by decide +kernel
theorem dX8_wordOf_2 : decode cX8_wordOf 2 = .ok (.iload_n 1, 1) := by decide +kernel
theorem dX8_wordOf_3 : decode cX8_wordOf 3 = .ok (.istore 5, 2) := by decide +kernel
theorem dX8_wordOf_5 : decode cX8_wordOf 5 = .ok (.iload 5, 2) := by decide +kernel
theorem dX8_wordOf_7 : decode cX8_wordOf 7 = .ok (.iload_n 2, 1) := by decide +kernel
theorem dX8_wordOf_8 : decode cX8_wordOf 8 = .ok (.if_icmp .ge 30, 3) := by decide +kernel
theorem dX8_wordOf_11 : decode cX8_wordOf 11 = .ok (.ldc2_w 170, 3) := by decide +kernel
theorem dX8_wordOf_14 : decode cX8_wordOf 14 = .ok (.lload_n 3, 1) := by decide +kernel
theorem dX8_wordOf_15 : decode cX8_wordOf 15 = .ok (.lmul, 1) := by decide +kernel
theorem dX8_wordOf_16 : decode cX8_wordOf 16 = .ok (.aload_n 0, 1) := by decide +kernel
theorem dX8_wordOf_17 : decode cX8_wordOf 17 = .ok (.getfield 16, 3) := by decide +kernel
theorem dX8_wordOf_20 : decode cX8_wordOf 20 = .ok (.iload 5, 2) := by decide +kernel
theorem dX8_wordOf_22 : decode cX8_wordOf 22 = .ok (.iaload, 1) := by decide +kernel
theorem dX8_wordOf_23 : decode cX8_wordOf 23 = .ok (.i2l, 1) := by decide +kernel
theorem dX8_wordOf_24 : decode cX8_wordOf 24 = .ok (.ladd, 1) := by decide +kernel
theorem dX8_wordOf_25 : decode cX8_wordOf 25 = .ok (.ldc2_w 172, 3) := by decide +kernel
theorem dX8_wordOf_28 : decode cX8_wordOf 28 = .ok (.lsub, 1) := by decide +kernel
theorem dX8_wordOf_29 : decode cX8_wordOf 29 = .ok (.lconst 1, 1) := by decide +kernel
theorem dX8_wordOf_30 : decode cX8_wordOf 30 = .ok (.ladd, 1) := by decide +kernel
theorem dX8_wordOf_31 : decode cX8_wordOf 31 = .ok (.lstore_n 3, 1) := by decide +kernel
theorem dX8_wordOf_32 : decode cX8_wordOf 32 = .ok (.iinc 5 1, 3) := by decide +kernel
theorem dX8_wordOf_35 : decode cX8_wordOf 35 = .ok (.goto (-30), 3) := by decide +kernel
theorem dX8_wordOf_38 : decode cX8_wordOf 38 = .ok (.iload_n 2, 1) := by decide +kernel
theorem dX8_wordOf_39 : decode cX8_wordOf 39 = .ok (.iload_n 1, 1) := by decide +kernel
theorem dX8_wordOf_40 : decode cX8_wordOf 40 = .ok (.isub, 1) := by decide +kernel
theorem dX8_wordOf_41 : decode cX8_wordOf 41 = .ok (.bipush 6, 2) := by decide +kernel
theorem dX8_wordOf_43 : decode cX8_wordOf 43 = .ok (.if_icmp .le 7, 3) := by decide +kernel
theorem dX8_wordOf_46 : decode cX8_wordOf 46 = .ok (.lconst 0, 1) := by decide +kernel
theorem dX8_wordOf_47 : decode cX8_wordOf 47 = .ok (.goto 4, 3) := by decide +kernel
theorem dX8_wordOf_50 : decode cX8_wordOf 50 = .ok (.lload_n 3, 1) := by decide +kernel
theorem dX8_wordOf_51 : decode cX8_wordOf 51 = .ok (.lreturn, 1) := by decide +kernel
theorem dX8_code_0 : decode cX8_code 0 = .ok (.lconst 0, 1) := by decide +kernel
theorem dX8_code_1 : decode cX8_code 1 = .ok (.lstore 6, 2) := by decide +kernel
theorem dX8_code_3 : decode cX8_code 3 = .ok (.iconst 0, 1) := by decide +kernel
theorem dX8_code_4 : decode cX8_code 4 = .ok (.istore 8, 2) := by decide +kernel
theorem dX8_code_6 : decode cX8_code 6 = .ok (.iload 8, 2) := by decide +kernel
theorem dX8_code_8 : decode cX8_code 8 = .ok (.bipush 6, 2) := by decide +kernel
theorem dX8_code_10 : decode cX8_code 10 = .ok (.if_icmp .ge 91, 3) := by decide +kernel
theorem dX8_code_13 : decode cX8_code 13 = .ok (.iload 8, 2) := by decide +kernel
theorem dX8_code_15 : decode cX8_code 15 = .ok (.ifCond .ne 7, 3) := by decide +kernel
theorem dX8_code_18 : decode cX8_code 18 = .ok (.iload_n 0, 1) := by decide +kernel
theorem dX8_code_19 : decode cX8_code 19 = .ok (.goto 46, 3) := by decide +kernel
theorem dX8_code_22 : decode cX8_code 22 = .ok (.iload 8, 2) := by decide +kernel
theorem dX8_code_24 : decode cX8_code 24 = .ok (.iconst 1, 1) := by decide +kernel
theorem dX8_code_25 : decode cX8_code 25 = .ok (.if_icmp .ne 7, 3) := by decide +kernel
theorem dX8_code_28 : decode cX8_code 28 = .ok (.iload_n 1, 1) := by decide +kernel
theorem dX8_code_29 : decode cX8_code 29 = .ok (.goto 36, 3) := by decide +kernel
theorem dX8_code_32 : decode cX8_code 32 = .ok (.iload 8, 2) := by decide +kernel
theorem dX8_code_34 : decode cX8_code 34 = .ok (.iconst 2, 1) := by decide +kernel
theorem dX8_code_35 : decode cX8_code 35 = .ok (.if_icmp .ne 7, 3) := by decide +kernel
theorem dX8_code_38 : decode cX8_code 38 = .ok (.iload_n 2, 1) := by decide +kernel
theorem dX8_code_39 : decode cX8_code 39 = .ok (.goto 26, 3) := by decide +kernel
theorem dX8_code_42 : decode cX8_code 42 = .ok (.iload 8, 2) := by decide +kernel
theorem dX8_code_44 : decode cX8_code 44 = .ok (.iconst 3, 1) := by decide +kernel
theorem dX8_code_45 : decode cX8_code 45 = .ok (.if_icmp .ne 7, 3) := by decide +kernel
theorem dX8_code_48 : decode cX8_code 48 = .ok (.iload_n 3, 1) := by decide +kernel
theorem dX8_code_49 : decode cX8_code 49 = .ok (.goto 16, 3) := by decide +kernel
theorem dX8_code_52 : decode cX8_code 52 = .ok (.iload 8, 2) := by decide +kernel
theorem dX8_code_54 : decode cX8_code 54 = .ok (.iconst 4, 1) := by decide +kernel
theorem dX8_code_55 : decode cX8_code 55 = .ok (.if_icmp .ne 8, 3) := by decide +kernel
theorem dX8_code_58 : decode cX8_code 58 = .ok (.iload 4, 2) := by decide +kernel
theorem dX8_code_60 : decode cX8_code 60 = .ok (.goto 5, 3) := by decide +kernel
theorem dX8_code_63 : decode cX8_code 63 = .ok (.iload 5, 2) := by decide +kernel
theorem dX8_code_65 : decode cX8_code 65 = .ok (.istore 9, 2) := by decide +kernel
theorem dX8_code_67 : decode cX8_code 67 = .ok (.iload 9, 2) := by decide +kernel
theorem dX8_code_69 : decode cX8_code 69 = .ok (.ifCond .le 22, 3) := by decide +kernel
theorem dX8_code_72 : decode cX8_code 72 = .ok (.ldc2_w 170, 3) := by decide +kernel
theorem dX8_code_75 : decode cX8_code 75 = .ok (.lload 6, 2) := by decide +kernel
theorem dX8_code_77 : decode cX8_code 77 = .ok (.lmul, 1) := by decide +kernel
theorem dX8_code_78 : decode cX8_code 78 = .ok (.iload 9, 2) := by decide +kernel
theorem dX8_code_80 : decode cX8_code 80 = .ok (.i2l, 1) := by decide +kernel
theorem dX8_code_81 : decode cX8_code 81 = .ok (.ladd, 1) := by decide +kernel
theorem dX8_code_82 : decode cX8_code 82 = .ok (.ldc2_w 172, 3) := by decide +kernel
theorem dX8_code_85 : decode cX8_code 85 = .ok (.lsub, 1) := by decide +kernel
theorem dX8_code_86 : decode cX8_code 86 = .ok (.lconst 1, 1) := by decide +kernel
theorem dX8_code_87 : decode cX8_code 87 = .ok (.ladd, 1) := by decide +kernel
theorem dX8_code_88 : decode cX8_code 88 = .ok (.goto 5, 3) := by decide +kernel
theorem dX8_code_91 : decode cX8_code 91 = .ok (.lload 6, 2) := by decide +kernel
theorem dX8_code_93 : decode cX8_code 93 = .ok (.lstore 6, 2) := by decide +kernel
theorem dX8_code_95 : decode cX8_code 95 = .ok (.iinc 8 1, 3) := by decide +kernel
theorem dX8_code_98 : decode cX8_code 98 = .ok (.goto (-92), 3) := by decide +kernel
theorem dX8_code_101 : decode cX8_code 101 = .ok (.lload 6, 2) := by decide +kernel
theorem dX8_code_103 : decode cX8_code 103 = .ok (.lreturn, 1) := by decide +kernel
set_option maxRecDepth 20000 in
theorem ggX8_commandOf_X8_code : GoodIn wsX8_commandOf wsX8_code := goodIn_r _ [4, 5, 6] (by decide +kernel) (by decide +kernel)
set_option maxRecDepth 20000 in
theorem gX8_commandOf_X8_code : GoodIn wsX8_commandOf (va_wsS RX8 174 yX8_code wsX8_code) := goodIn_app (goodIn_of _ (by decide +kernel)) ggX8_commandOf_X8_code
theorem dX8_commandOf_0 : decode cX8_commandOf 0 = .ok (.lload_n 0, 1) := by decide +kernel
theorem dX8_commandOf_1 : decode cX8_commandOf 1 = .ok (.bipush 97, 2) := by decide +kernel
theorem dX8_commandOf_3 : decode cX8_commandOf 3 = .ok (.bipush 100, 2) := by decide +kernel
theorem dX8_commandOf_5 : decode cX8_commandOf 5 = .ok (.bipush 100, 2) := by decide +kernel
theorem dX8_commandOf_7 : decode cX8_commandOf 7 = .ok (.iconst 0, 1) := by decide +kernel
theorem dX8_commandOf_8 : decode cX8_commandOf 8 = .ok (.iconst 0, 1) := by decide +kernel
theorem dX8_commandOf_9 : decode cX8_commandOf 9 = .ok (.iconst 0, 1) := by decide +kernel
theorem dX8_commandOf_10 : decode cX8_commandOf 10 = .ok (.invokestatic 174, 3) := by decide +kernel
theorem dX8_commandOf_13 : decode cX8_commandOf 13 = .ok (.lcmp, 1) := by decide +kernel
theorem dX8_commandOf_14 : decode cX8_commandOf 14 = .ok (.ifCond .ne 5, 3) := by decide +kernel
theorem dX8_commandOf_17 : decode cX8_commandOf 17 = .ok (.iconst 0, 1) := by decide +kernel
theorem dX8_commandOf_18 : decode cX8_commandOf 18 = .ok (.ireturn, 1) := by decide +kernel
theorem dX8_commandOf_19 : decode cX8_commandOf 19 = .ok (.lload_n 0, 1) := by decide +kernel
theorem dX8_commandOf_20 : decode cX8_commandOf 20 = .ok (.bipush 119, 2) := by decide +kernel
theorem dX8_commandOf_22 : decode cX8_commandOf 22 = .ok (.bipush 101, 2) := by decide +kernel
theorem dX8_commandOf_24 : decode cX8_commandOf 24 = .ok (.bipush 105, 2) := by decide +kernel
theorem dX8_commandOf_26 : decode cX8_commandOf 26 = .ok (.bipush 103, 2) := by decide +kernel
theorem dX8_commandOf_28 : decode cX8_commandOf 28 = .ok (.bipush 104, 2) := by decide +kernel
theorem dX8_commandOf_30 : decode cX8_commandOf 30 = .ok (.bipush 116, 2) := by decide +kernel
theorem dX8_commandOf_32 : decode cX8_commandOf 32 = .ok (.invokestatic 174, 3) := by decide +kernel
theorem dX8_commandOf_35 : decode cX8_commandOf 35 = .ok (.lcmp, 1) := by decide +kernel
theorem dX8_commandOf_36 : decode cX8_commandOf 36 = .ok (.ifCond .ne 5, 3) := by decide +kernel
theorem dX8_commandOf_39 : decode cX8_commandOf 39 = .ok (.iconst 1, 1) := by decide +kernel
theorem dX8_commandOf_40 : decode cX8_commandOf 40 = .ok (.ireturn, 1) := by decide +kernel
theorem dX8_commandOf_41 : decode cX8_commandOf 41 = .ok (.lload_n 0, 1) := by decide +kernel
theorem dX8_commandOf_42 : decode cX8_commandOf 42 = .ok (.bipush 113, 2) := by decide +kernel
theorem dX8_commandOf_44 : decode cX8_commandOf 44 = .ok (.bipush 117, 2) := by decide +kernel
theorem dX8_commandOf_46 : decode cX8_commandOf 46 = .ok (.bipush 111, 2) := by decide +kernel
theorem dX8_commandOf_48 : decode cX8_commandOf 48 = .ok (.bipush 116, 2) := by decide +kernel
theorem dX8_commandOf_50 : decode cX8_commandOf 50 = .ok (.bipush 97, 2) := by decide +kernel
theorem dX8_commandOf_52 : decode cX8_commandOf 52 = .ok (.iconst 0, 1) := by decide +kernel
theorem dX8_commandOf_53 : decode cX8_commandOf 53 = .ok (.invokestatic 174, 3) := by decide +kernel
theorem dX8_commandOf_56 : decode cX8_commandOf 56 = .ok (.lcmp, 1) := by decide +kernel
theorem dX8_commandOf_57 : decode cX8_commandOf 57 = .ok (.ifCond .ne 5, 3) := by decide +kernel
theorem dX8_commandOf_60 : decode cX8_commandOf 60 = .ok (.iconst 2, 1) := by decide +kernel
theorem dX8_commandOf_61 : decode cX8_commandOf 61 = .ok (.ireturn, 1) := by decide +kernel
theorem dX8_commandOf_62 : decode cX8_commandOf 62 = .ok (.lload_n 0, 1) := by decide +kernel
theorem dX8_commandOf_63 : decode cX8_commandOf 63 = .ok (.bipush 102, 2) := by decide +kernel
theorem dX8_commandOf_65 : decode cX8_commandOf 65 = .ok (.bipush 111, 2) := by decide +kernel
theorem dX8_commandOf_67 : decode cX8_commandOf 67 = .ok (.bipush 108, 2) := by decide +kernel
theorem dX8_commandOf_69 : decode cX8_commandOf 69 = .ok (.bipush 108, 2) := by decide +kernel
theorem dX8_commandOf_71 : decode cX8_commandOf 71 = .ok (.bipush 111, 2) := by decide +kernel
theorem dX8_commandOf_73 : decode cX8_commandOf 73 = .ok (.bipush 119, 2) := by decide +kernel
theorem dX8_commandOf_75 : decode cX8_commandOf 75 = .ok (.invokestatic 174, 3) := by decide +kernel
theorem dX8_commandOf_78 : decode cX8_commandOf 78 = .ok (.lcmp, 1) := by decide +kernel
theorem dX8_commandOf_79 : decode cX8_commandOf 79 = .ok (.ifCond .ne 5, 3) := by decide +kernel
theorem dX8_commandOf_82 : decode cX8_commandOf 82 = .ok (.iconst 3, 1) := by decide +kernel
theorem dX8_commandOf_83 : decode cX8_commandOf 83 = .ok (.ireturn, 1) := by decide +kernel
theorem dX8_commandOf_84 : decode cX8_commandOf 84 = .ok (.lload_n 0, 1) := by decide +kernel
theorem dX8_commandOf_85 : decode cX8_commandOf 85 = .ok (.bipush 108, 2) := by decide +kernel
theorem dX8_commandOf_87 : decode cX8_commandOf 87 = .ok (.bipush 101, 2) := by decide +kernel
theorem dX8_commandOf_89 : decode cX8_commandOf 89 = .ok (.bipush 97, 2) := by decide +kernel
theorem dX8_commandOf_91 : decode cX8_commandOf 91 = .ok (.bipush 118, 2) := by decide +kernel
theorem dX8_commandOf_93 : decode cX8_commandOf 93 = .ok (.bipush 101, 2) := by decide +kernel
theorem dX8_commandOf_95 : decode cX8_commandOf 95 = .ok (.iconst 0, 1) := by decide +kernel
theorem dX8_commandOf_96 : decode cX8_commandOf 96 = .ok (.invokestatic 174, 3) := by decide +kernel
theorem dX8_commandOf_99 : decode cX8_commandOf 99 = .ok (.lcmp, 1) := by decide +kernel
theorem dX8_commandOf_100 : decode cX8_commandOf 100 = .ok (.ifCond .ne 5, 3) := by decide +kernel
theorem dX8_commandOf_103 : decode cX8_commandOf 103 = .ok (.iconst 4, 1) := by decide +kernel
theorem dX8_commandOf_104 : decode cX8_commandOf 104 = .ok (.ireturn, 1) := by decide +kernel
theorem dX8_commandOf_105 : decode cX8_commandOf 105 = .ok (.lload_n 0, 1) := by decide +kernel
theorem dX8_commandOf_106 : decode cX8_commandOf 106 = .ok (.bipush 114, 2) := by decide +kernel
theorem dX8_commandOf_108 : decode cX8_commandOf 108 = .ok (.bipush 117, 2) := by decide +kernel
theorem dX8_commandOf_110 : decode cX8_commandOf 110 = .ok (.bipush 108, 2) := by decide +kernel
theorem dX8_commandOf_112 : decode cX8_commandOf 112 = .ok (.bipush 101, 2) := by decide +kernel
theorem dX8_commandOf_114 : decode cX8_commandOf 114 = .ok (.iconst 0, 1) := by decide +kernel
theorem dX8_commandOf_115 : decode cX8_commandOf 115 = .ok (.iconst 0, 1) := by decide +kernel
theorem dX8_commandOf_116 : decode cX8_commandOf 116 = .ok (.invokestatic 174, 3) := by decide +kernel
theorem dX8_commandOf_119 : decode cX8_commandOf 119 = .ok (.lcmp, 1) := by decide +kernel
theorem dX8_commandOf_120 : decode cX8_commandOf 120 = .ok (.ifCond .ne 7, 3) := by decide +kernel
theorem dX8_commandOf_123 : decode cX8_commandOf 123 = .ok (.iconst 5, 1) := by decide +kernel
theorem dX8_commandOf_124 : decode cX8_commandOf 124 = .ok (.goto 27, 3) := by decide +kernel
theorem dX8_commandOf_127 : decode cX8_commandOf 127 = .ok (.lload_n 0, 1) := by decide +kernel
theorem dX8_commandOf_128 : decode cX8_commandOf 128 = .ok (.bipush 100, 2) := by decide +kernel
theorem dX8_commandOf_130 : decode cX8_commandOf 130 = .ok (.bipush 114, 2) := by decide +kernel
theorem dX8_commandOf_132 : decode cX8_commandOf 132 = .ok (.bipush 111, 2) := by decide +kernel
theorem dX8_commandOf_134 : decode cX8_commandOf 134 = .ok (.bipush 112, 2) := by decide +kernel
theorem dX8_commandOf_136 : decode cX8_commandOf 136 = .ok (.iconst 0, 1) := by decide +kernel
theorem dX8_commandOf_137 : decode cX8_commandOf 137 = .ok (.iconst 0, 1) := by decide +kernel
theorem dX8_commandOf_138 : decode cX8_commandOf 138 = .ok (.invokestatic 174, 3) := by decide +kernel
theorem dX8_commandOf_141 : decode cX8_commandOf 141 = .ok (.lcmp, 1) := by decide +kernel
theorem dX8_commandOf_142 : decode cX8_commandOf 142 = .ok (.ifCond .ne 8, 3) := by decide +kernel
theorem dX8_commandOf_145 : decode cX8_commandOf 145 = .ok (.bipush 6, 2) := by decide +kernel
theorem dX8_commandOf_147 : decode cX8_commandOf 147 = .ok (.goto 4, 3) := by decide +kernel
theorem dX8_commandOf_150 : decode cX8_commandOf 150 = .ok (.iconst (-1), 1) := by decide +kernel
theorem dX8_commandOf_151 : decode cX8_commandOf 151 = .ok (.ireturn, 1) := by decide +kernel
set_option maxRecDepth 20000 in
theorem ggX8_number_X8_isAt : GoodIn wsX8_number wsX8_isAt := goodIn_r _ [8, 1, 9, 3, 10, 11, 7, 12, 17, 18, 19, 20, 21, 22, 23, 24, 25, 26, 27, 28, 29, 30] (by decide +kernel) (by decide +kernel)
set_option maxRecDepth 20000 in
theorem gX8_number_X8_isAt : GoodIn wsX8_number (wsV RX8 167 RX8 yX8_isAt wsX8_isAt) := goodIn_app (goodIn_of _ (by decide +kernel)) ggX8_number_X8_isAt
set_option maxRecDepth 20000 in
theorem ggX8_number_X8_skips : GoodIn wsX8_number wsX8_skips := goodIn_r _ [16, 1, 4, 5, 6, 7, 8, 9, 3, 10, 11, 12, 17, 18, 19, 20, 21, 22, 23, 24, 25, 26, 27, 28, 29, 30] (by decide +kernel) (by decide +kernel)
set_option maxRecDepth 20000 in
theorem gX8_number_X8_skips : GoodIn wsX8_number (wsV RX8 178 RX8 yX8_skips wsX8_skips) := goodIn_app (goodIn_of _ (by decide +kernel)) ggX8_number_X8_skips
theorem dX8_number_0 : decode cX8_number 0 = .ok (.aload_n 0, 1) := by decide +kernel
theorem dX8_number_1 : decode cX8_number 1 = .ok (.bipush 32, 2) := by decide +kernel
theorem dX8_number_3 : decode cX8_number 3 = .ok (.bipush 32, 2) := by decide +kernel
theorem dX8_number_5 : decode cX8_number 5 = .ok (.invokevirtual 167, 3) := by decide +kernel
theorem dX8_number_8 : decode cX8_number 8 = .ok (.ifCond .ne 5, 3) := by decide +kernel
theorem dX8_number_11 : decode cX8_number 11 = .ok (.iconst 0, 1) := by decide +kernel
theorem dX8_number_12 : decode cX8_number 12 = .ok (.ireturn, 1) := by decide +kernel
theorem dX8_number_13 : decode cX8_number 13 = .ok (.aload_n 0, 1) := by decide +kernel
theorem dX8_number_14 : decode cX8_number 14 = .ok (.invokevirtual 178, 3) := by decide +kernel
theorem dX8_number_17 : decode cX8_number 17 = .ok (.aload_n 0, 1) := by decide +kernel
theorem dX8_number_18 : decode cX8_number 18 = .ok (.getfield 164, 3) := by decide +kernel
theorem dX8_number_21 : decode cX8_number 21 = .ok (.istore_n 2, 1) := by decide +kernel
theorem dX8_number_22 : decode cX8_number 22 = .ok (.aload_n 0, 1) := by decide +kernel
theorem dX8_number_23 : decode cX8_number 23 = .ok (.getfield 29, 3) := by decide +kernel
theorem dX8_number_26 : decode cX8_number 26 = .ok (.iload_n 1, 1) := by decide +kernel
theorem dX8_number_27 : decode cX8_number 27 = .ok (.iconst 0, 1) := by decide +kernel
theorem dX8_number_28 : decode cX8_number 28 = .ok (.iastore, 1) := by decide +kernel
theorem dX8_number_29 : decode cX8_number 29 = .ok (.aload_n 0, 1) := by decide +kernel
theorem dX8_number_30 : decode cX8_number 30 = .ok (.bipush 48, 2) := by decide +kernel
theorem dX8_number_32 : decode cX8_number 32 = .ok (.bipush 57, 2) := by decide +kernel
theorem dX8_number_34 : decode cX8_number 34 = .ok (.invokevirtual 167, 3) := by decide +kernel
theorem dX8_number_37 : decode cX8_number 37 = .ok (.ifCond .eq 54, 3) := by decide +kernel
theorem dX8_number_40 : decode cX8_number 40 = .ok (.aload_n 0, 1) := by decide +kernel
theorem dX8_number_41 : decode cX8_number 41 = .ok (.getfield 164, 3) := by decide +kernel
theorem dX8_number_44 : decode cX8_number 44 = .ok (.iload_n 2, 1) := by decide +kernel
theorem dX8_number_45 : decode cX8_number 45 = .ok (.isub, 1) := by decide +kernel
theorem dX8_number_46 : decode cX8_number 46 = .ok (.iconst 3, 1) := by decide +kernel
theorem dX8_number_47 : decode cX8_number 47 = .ok (.if_icmp .ge 44, 3) := by decide +kernel
theorem dX8_number_50 : decode cX8_number 50 = .ok (.aload_n 0, 1) := by decide +kernel
theorem dX8_number_51 : decode cX8_number 51 = .ok (.getfield 29, 3) := by decide +kernel
theorem dX8_number_54 : decode cX8_number 54 = .ok (.iload_n 1, 1) := by decide +kernel
theorem dX8_number_55 : decode cX8_number 55 = .ok (.bipush 10, 2) := by decide +kernel
theorem dX8_number_57 : decode cX8_number 57 = .ok (.aload_n 0, 1) := by decide +kernel
theorem dX8_number_58 : decode cX8_number 58 = .ok (.getfield 29, 3) := by decide +kernel
theorem dX8_number_61 : decode cX8_number 61 = .ok (.iload_n 1, 1) := by decide +kernel
theorem dX8_number_62 : decode cX8_number 62 = .ok (.iaload, 1) := by decide +kernel
theorem dX8_number_63 : decode cX8_number 63 = .ok (.imul, 1) := by decide +kernel
theorem dX8_number_64 : decode cX8_number 64 = .ok (.aload_n 0, 1) := by decide +kernel
theorem dX8_number_65 : decode cX8_number 65 = .ok (.getfield 16, 3) := by decide +kernel
theorem dX8_number_68 : decode cX8_number 68 = .ok (.aload_n 0, 1) := by decide +kernel
theorem dX8_number_69 : decode cX8_number 69 = .ok (.getfield 164, 3) := by decide +kernel
theorem dX8_number_72 : decode cX8_number 72 = .ok (.iaload, 1) := by decide +kernel
theorem dX8_number_73 : decode cX8_number 73 = .ok (.iadd, 1) := by decide +kernel
theorem dX8_number_74 : decode cX8_number 74 = .ok (.bipush 48, 2) := by decide +kernel
theorem dX8_number_76 : decode cX8_number 76 = .ok (.isub, 1) := by decide +kernel
theorem dX8_number_77 : decode cX8_number 77 = .ok (.iastore, 1) := by decide +kernel
theorem dX8_number_78 : decode cX8_number 78 = .ok (.aload_n 0, 1) := by decide +kernel
theorem dX8_number_79 : decode cX8_number 79 = .ok (.dup, 1) := by decide +kernel
theorem dX8_number_80 : decode cX8_number 80 = .ok (.getfield 164, 3) := by decide +kernel
theorem dX8_number_83 : decode cX8_number 83 = .ok (.iconst 1, 1) := by decide +kernel
theorem dX8_number_84 : decode cX8_number 84 = .ok (.iadd, 1) := by decide +kernel
theorem dX8_number_85 : decode cX8_number 85 = .ok (.putfield 164, 3) := by decide +kernel
theorem dX8_number_88 : decode cX8_number 88 = .ok (.goto (-59), 3) := by decide +kernel
theorem dX8_number_91 : decode cX8_number 91 = .ok (.aload_n 0, 1) := by decide +kernel
theorem dX8_number_92 : decode cX8_number 92 = .ok (.getfield 164, 3) := by decide +kernel
theorem dX8_number_95 : decode cX8_number 95 = .ok (.iload_n 2, 1) := by decide +kernel
theorem dX8_number_96 : decode cX8_number 96 = .ok (.if_icmp .le 18, 3) := by decide +kernel
theorem dX8_number_99 : decode cX8_number 99 = .ok (.aload_n 0, 1) := by decide +kernel
theorem dX8_number_100 : decode cX8_number 100 = .ok (.bipush 48, 2) := by decide +kernel
theorem dX8_number_102 : decode cX8_number 102 = .ok (.bipush 57, 2) := by decide +kernel
theorem dX8_number_104 : decode cX8_number 104 = .ok (.invokevirtual 167, 3) := by decide +kernel
theorem dX8_number_107 : decode cX8_number 107 = .ok (.ifCond .ne 7, 3) := by decide +kernel
theorem dX8_number_110 : decode cX8_number 110 = .ok (.iconst 1, 1) := by decide +kernel
theorem dX8_number_111 : decode cX8_number 111 = .ok (.goto 4, 3) := by decide +kernel
theorem dX8_number_114 : decode cX8_number 114 = .ok (.iconst 0, 1) := by decide +kernel
theorem dX8_number_115 : decode cX8_number 115 = .ok (.ireturn, 1) := by decide +kernel
set_option maxRecDepth 20000 in
theorem ggX8_reads_X8_isAt : GoodIn wsX8_reads wsX8_isAt := goodIn_r _ [7, 1, 8, 9, 10, 11, 6, 12, 34, 35, 36, 37, 38, 39, 40, 41, 42, 43, 44, 45, 46, 47] (by decide +kernel) (by decide +kernel)
set_option maxRecDepth 20000 in
theorem gX8_reads_X8_isAt : GoodIn wsX8_reads (wsV RX8 167 RX8 yX8_isAt wsX8_isAt) := goodIn_app (goodIn_of _ (by decide +kernel)) ggX8_reads_X8_isAt
set_option maxRecDepth 20000 in
theorem ggX8_reads_X8_wordOf : GoodIn wsX8_reads wsX8_wordOf := goodIn_r _ [16, 17, 9, 18, 34, 35, 36, 37, 38, 39, 40, 41, 42, 43, 44, 45, 46, 47] (by decide +kernel) (by decide +kernel)
set_option maxRecDepth 20000 in
theorem gX8_reads_X8_wordOf : GoodIn wsX8_reads (wsV RX8 181 RX8 yX8_wordOf wsX8_wordOf) := goodIn_app (goodIn_of _ (by decide +kernel)) ggX8_reads_X8_wordOf
set_option maxRecDepth 20000 in
theorem ggX8_reads_X8_commandOf : GoodIn wsX8_reads wsX8_commandOf := goodIn_r _ [21, 22, 23, 6, 24, 17, 18] (by decide +kernel) (by decide +kernel)
set_option maxRecDepth 20000 in
theorem gX8_reads_X8_commandOf : GoodIn wsX8_reads (va_wsS RX8 185 yX8_commandOf wsX8_commandOf) := goodIn_app (goodIn_of _ (by decide +kernel)) ggX8_reads_X8_commandOf
set_option maxRecDepth 20000 in
theorem ggX8_reads_X8_number : GoodIn wsX8_reads wsX8_number := goodIn_r _ [28, 1, 29, 9, 3, 4, 5, 6, 7, 8, 10, 11, 12, 30, 31, 32, 33, 34, 35, 36, 37, 38, 39, 40, 41, 42, 43, 44, 45, 46, 47] (by decide +kernel) (by decide +kernel)
set_option maxRecDepth 20000 in
theorem gX8_reads_X8_number : GoodIn wsX8_reads (wsV RX8 192 RX8 yX8_number wsX8_number) := goodIn_app (goodIn_of _ (by decide +kernel)) ggX8_reads_X8_number
set_option maxRecDepth 20000 in
theorem ggX8_reads_X8_skips : GoodIn wsX8_reads wsX8_skips := goodIn_r _ [33, 1, 3, 4, 5, 6, 7, 8, 9, 10, 11, 12, 34, 35, 36, 37, 38, 39, 40, 41, 42, 43, 44, 45, 46, 47] (by decide +kernel) (by decide +kernel)
set_option maxRecDepth 20000 in
theorem gX8_reads_X8_skips : GoodIn wsX8_reads (wsV RX8 178 RX8 yX8_skips wsX8_skips) := goodIn_app (goodIn_of _ (by decide +kernel)) ggX8_reads_X8_skips
theorem dX8_reads_0 : decode cX8_reads 0 = .ok (.aload_n 0, 1) := by decide +kernel
theorem dX8_reads_1 : decode cX8_reads 1 = .ok (.getfield 164, 3) := by decide +kernel
theorem dX8_reads_4 : decode cX8_reads 4 = .ok (.istore_n 1, 1) := by decide +kernel
theorem dX8_reads_5 : decode cX8_reads 5 = .ok (.aload_n 0, 1) := by decide +kernel
theorem dX8_reads_6 : decode cX8_reads 6 = .ok (.bipush 97, 2) := by decide +kernel
theorem dX8_reads_8 : decode cX8_reads 8 = .ok (.bipush 122, 2) := by decide +kernel
theorem dX8_reads_10 : decode cX8_reads 10 = .ok (.invokevirtual 167, 3) := by decide +kernel
theorem dX8_reads_13 : decode cX8_reads 13 = .ok (.ifCond .eq 16, 3) := by decide +kernel
theorem dX8_reads_16 : decode cX8_reads 16 = .ok (.aload_n 0, 1) := by decide +kernel
theorem dX8_reads_17 : decode cX8_reads 17 = .ok (.dup, 1) := by decide +kernel
theorem dX8_reads_18 : decode cX8_reads 18 = .ok (.getfield 164, 3) := by decide +kernel
theorem dX8_reads_21 : decode cX8_reads 21 = .ok (.iconst 1, 1) := by decide +kernel
theorem dX8_reads_22 : decode cX8_reads 22 = .ok (.iadd, 1) := by decide +kernel
theorem dX8_reads_23 : decode cX8_reads 23 = .ok (.putfield 164, 3) := by decide +kernel
theorem dX8_reads_26 : decode cX8_reads 26 = .ok (.goto (-21), 3) := by decide +kernel
theorem dX8_reads_29 : decode cX8_reads 29 = .ok (.aload_n 0, 1) := by decide +kernel
theorem dX8_reads_30 : decode cX8_reads 30 = .ok (.aload_n 0, 1) := by decide +kernel
theorem dX8_reads_31 : decode cX8_reads 31 = .ok (.iload_n 1, 1) := by decide +kernel
theorem dX8_reads_32 : decode cX8_reads 32 = .ok (.aload_n 0, 1) := by decide +kernel
theorem dX8_reads_33 : decode cX8_reads 33 = .ok (.getfield 164, 3) := by decide +kernel
theorem dX8_reads_36 : decode cX8_reads 36 = .ok (.invokevirtual 181, 3) := by decide +kernel
theorem dX8_reads_39 : decode cX8_reads 39 = .ok (.invokestatic 185, 3) := by decide +kernel
theorem dX8_reads_42 : decode cX8_reads 42 = .ok (.putfield 189, 3) := by decide +kernel
theorem dX8_reads_45 : decode cX8_reads 45 = .ok (.aload_n 0, 1) := by decide +kernel
theorem dX8_reads_46 : decode cX8_reads 46 = .ok (.getfield 189, 3) := by decide +kernel
theorem dX8_reads_49 : decode cX8_reads 49 = .ok (.iconst (-1), 1) := by decide +kernel
theorem dX8_reads_50 : decode cX8_reads 50 = .ok (.if_icmp .ne 10, 3) := by decide +kernel
theorem dX8_reads_53 : decode cX8_reads 53 = .ok (.aload_n 0, 1) := by decide +kernel
theorem dX8_reads_54 : decode cX8_reads 54 = .ok (.iload_n 1, 1) := by decide +kernel
theorem dX8_reads_55 : decode cX8_reads 55 = .ok (.putfield 164, 3) := by decide +kernel
theorem dX8_reads_58 : decode cX8_reads 58 = .ok (.iconst 0, 1) := by decide +kernel
theorem dX8_reads_59 : decode cX8_reads 59 = .ok (.ireturn, 1) := by decide +kernel
theorem dX8_reads_60 : decode cX8_reads 60 = .ok (.aload_n 0, 1) := by decide +kernel
theorem dX8_reads_61 : decode cX8_reads 61 = .ok (.getfield 189, 3) := by decide +kernel
theorem dX8_reads_64 : decode cX8_reads 64 = .ok (.iconst 1, 1) := by decide +kernel
theorem dX8_reads_65 : decode cX8_reads 65 = .ok (.if_icmp .eq 19, 3) := by decide +kernel
theorem dX8_reads_68 : decode cX8_reads 68 = .ok (.aload_n 0, 1) := by decide +kernel
theorem dX8_reads_69 : decode cX8_reads 69 = .ok (.getfield 189, 3) := by decide +kernel
theorem dX8_reads_72 : decode cX8_reads 72 = .ok (.iconst 3, 1) := by decide +kernel
theorem dX8_reads_73 : decode cX8_reads 73 = .ok (.if_icmp .eq 11, 3) := by decide +kernel
theorem dX8_reads_76 : decode cX8_reads 76 = .ok (.aload_n 0, 1) := by decide +kernel
theorem dX8_reads_77 : decode cX8_reads 77 = .ok (.getfield 189, 3) := by decide +kernel
theorem dX8_reads_80 : decode cX8_reads 80 = .ok (.iconst 5, 1) := by decide +kernel
theorem dX8_reads_81 : decode cX8_reads 81 = .ok (.if_icmp .ne 7, 3) := by decide +kernel
theorem dX8_reads_84 : decode cX8_reads 84 = .ok (.iconst 1, 1) := by decide +kernel
theorem dX8_reads_85 : decode cX8_reads 85 = .ok (.goto 4, 3) := by decide +kernel
theorem dX8_reads_88 : decode cX8_reads 88 = .ok (.iconst 0, 1) := by decide +kernel
theorem dX8_reads_89 : decode cX8_reads 89 = .ok (.istore_n 2, 1) := by decide +kernel
theorem dX8_reads_90 : decode cX8_reads 90 = .ok (.aload_n 0, 1) := by decide +kernel
theorem dX8_reads_91 : decode cX8_reads 91 = .ok (.iconst 0, 1) := by decide +kernel
theorem dX8_reads_92 : decode cX8_reads 92 = .ok (.invokevirtual 192, 3) := by decide +kernel
theorem dX8_reads_95 : decode cX8_reads 95 = .ok (.ifCond .eq 15, 3) := by decide +kernel
theorem dX8_reads_98 : decode cX8_reads 98 = .ok (.iload_n 2, 1) := by decide +kernel
theorem dX8_reads_99 : decode cX8_reads 99 = .ok (.ifCond .eq 13, 3) := by decide +kernel
theorem dX8_reads_102 : decode cX8_reads 102 = .ok (.aload_n 0, 1) := by decide +kernel
theorem dX8_reads_103 : decode cX8_reads 103 = .ok (.iconst 1, 1) := by decide +kernel
theorem dX8_reads_104 : decode cX8_reads 104 = .ok (.invokevirtual 192, 3) := by decide +kernel
theorem dX8_reads_107 : decode cX8_reads 107 = .ok (.ifCond .ne 5, 3) := by decide +kernel
theorem dX8_reads_110 : decode cX8_reads 110 = .ok (.iconst 0, 1) := by decide +kernel
theorem dX8_reads_111 : decode cX8_reads 111 = .ok (.ireturn, 1) := by decide +kernel
theorem dX8_reads_112 : decode cX8_reads 112 = .ok (.aload_n 0, 1) := by decide +kernel
theorem dX8_reads_113 : decode cX8_reads 113 = .ok (.invokevirtual 178, 3) := by decide +kernel
theorem dX8_reads_116 : decode cX8_reads 116 = .ok (.aload_n 0, 1) := by decide +kernel
theorem dX8_reads_117 : decode cX8_reads 117 = .ok (.bipush 59, 2) := by decide +kernel
theorem dX8_reads_119 : decode cX8_reads 119 = .ok (.bipush 59, 2) := by decide +kernel
theorem dX8_reads_121 : decode cX8_reads 121 = .ok (.invokevirtual 167, 3) := by decide +kernel
theorem dX8_reads_124 : decode cX8_reads 124 = .ok (.ifCond .ne 5, 3) := by decide +kernel
theorem dX8_reads_127 : decode cX8_reads 127 = .ok (.iconst 0, 1) := by decide +kernel
theorem dX8_reads_128 : decode cX8_reads 128 = .ok (.ireturn, 1) := by decide +kernel
theorem dX8_reads_129 : decode cX8_reads 129 = .ok (.aload_n 0, 1) := by decide +kernel
theorem dX8_reads_130 : decode cX8_reads 130 = .ok (.dup, 1) := by decide +kernel
theorem dX8_reads_131 : decode cX8_reads 131 = .ok (.getfield 164, 3) := by decide +kernel
theorem dX8_reads_134 : decode cX8_reads 134 = .ok (.iconst 1, 1) := by decide +kernel
theorem dX8_reads_135 : decode cX8_reads 135 = .ok (.iadd, 1) := by decide +kernel
theorem dX8_reads_136 : decode cX8_reads 136 = .ok (.putfield 164, 3) := by decide +kernel
theorem dX8_reads_139 : decode cX8_reads 139 = .ok (.aload_n 0, 1) := by decide +kernel
theorem dX8_reads_140 : decode cX8_reads 140 = .ok (.invokevirtual 178, 3) := by decide +kernel
theorem dX8_reads_143 : decode cX8_reads 143 = .ok (.iconst 1, 1) := by decide +kernel
theorem dX8_reads_144 : decode cX8_reads 144 = .ok (.ireturn, 1) := by decide +kernel
set_option maxRecDepth 20000 in
theorem ggX8_fault_X8_skips : GoodIn wsX8_fault wsX8_skips := goodIn_r _ [7, 1, 8, 9, 10, 6, 11, 2, 12, 13, 14, 15, 38, 39, 40, 41, 42, 43, 44, 45, 46, 47, 48, 49, 50, 51] (by decide +kernel) (by decide +kernel)
set_option maxRecDepth 20000 in
theorem gX8_fault_X8_skips : GoodIn wsX8_fault (wsV RX8 178 RX8 yX8_skips wsX8_skips) := goodIn_app (goodIn_of _ (by decide +kernel)) ggX8_fault_X8_skips
set_option maxRecDepth 20000 in
theorem ggX8_fault_X8_reads : GoodIn wsX8_fault wsX8_reads := goodIn_r _ [19, 1, 20, 8, 9, 10, 6, 11, 2, 12, 13, 14, 15, 21, 22, 23, 24, 25, 26, 27, 28, 29, 30, 31, 32, 33, 34, 35, 36, 37, 3, 4, 5, 7, 38, 39, 40, 41, 42, 43, 44, 45, 46, 47, 48, 49, 50, 51] (by decide +kernel) (by decide +kernel)
set_option maxRecDepth 20000 in
theorem gX8_fault_X8_reads : GoodIn wsX8_fault (wsV RX8 195 RX8 yX8_reads wsX8_reads) := goodIn_app (goodIn_of _ (by decide +kernel)) ggX8_fault_X8_reads
theorem dX8_fault_0 : decode cX8_fault 0 = .ok (.aload_n 0, 1) := by decide +kernel
theorem dX8_fault_1 : decode cX8_fault 1 = .ok (.iconst 0, 1) := by decide +kernel
theorem dX8_fault_2 : decode cX8_fault 2 = .ok (.putfield 164, 3) := by decide +kernel
theorem dX8_fault_5 : decode cX8_fault 5 = .ok (.aload_n 0, 1) := by decide +kernel
theorem dX8_fault_6 : decode cX8_fault 6 = .ok (.invokevirtual 178, 3) := by decide +kernel
theorem dX8_fault_9 : decode cX8_fault 9 = .ok (.iconst 1, 1) := by decide +kernel
theorem dX8_fault_10 : decode cX8_fault 10 = .ok (.istore_n 1, 1) := by decide +kernel
theorem dX8_fault_11 : decode cX8_fault 11 = .ok (.iload_n 1, 1) := by decide +kernel
theorem dX8_fault_12 : decode cX8_fault 12 = .ok (.ifCond .eq 22, 3) := by decide +kernel
theorem dX8_fault_15 : decode cX8_fault 15 = .ok (.aload_n 0, 1) := by decide +kernel
theorem dX8_fault_16 : decode cX8_fault 16 = .ok (.getfield 164, 3) := by decide +kernel
theorem dX8_fault_19 : decode cX8_fault 19 = .ok (.aload_n 0, 1) := by decide +kernel
theorem dX8_fault_20 : decode cX8_fault 20 = .ok (.getfield 141, 3) := by decide +kernel
theorem dX8_fault_23 : decode cX8_fault 23 = .ok (.if_icmp .ge 11, 3) := by decide +kernel
theorem dX8_fault_26 : decode cX8_fault 26 = .ok (.aload_n 0, 1) := by decide +kernel
theorem dX8_fault_27 : decode cX8_fault 27 = .ok (.invokevirtual 195, 3) := by decide +kernel
theorem dX8_fault_30 : decode cX8_fault 30 = .ok (.istore_n 1, 1) := by decide +kernel
theorem dX8_fault_31 : decode cX8_fault 31 = .ok (.goto (-20), 3) := by decide +kernel
theorem dX8_fault_34 : decode cX8_fault 34 = .ok (.iload_n 1, 1) := by decide +kernel
theorem dX8_fault_35 : decode cX8_fault 35 = .ok (.ifCond .eq 7, 3) := by decide +kernel
theorem dX8_fault_38 : decode cX8_fault 38 = .ok (.iconst (-1), 1) := by decide +kernel
theorem dX8_fault_39 : decode cX8_fault 39 = .ok (.goto 7, 3) := by decide +kernel
theorem dX8_fault_42 : decode cX8_fault 42 = .ok (.aload_n 0, 1) := by decide +kernel
theorem dX8_fault_43 : decode cX8_fault 43 = .ok (.getfield 164, 3) := by decide +kernel
theorem dX8_fault_46 : decode cX8_fault 46 = .ok (.ireturn, 1) := by decide +kernel
set_option maxRecDepth 20000 in
theorem ggX8_does_X8_add : GoodIn wsX8_does wsX8_add := goodIn_r _ [7, 8, 9, 10, 6, 11, 12, 13, 14, 15, 16, 17, 18, 19, 20, 21, 22, 23, 82, 83, 84, 85, 86, 87, 88, 89, 90, 91, 92, 93, 94, 95] (by decide +kernel) (by decide +kernel)
set_option maxRecDepth 20000 in
theorem gX8_does_X8_add : GoodIn wsX8_does (wsV RX8 199 RX8 yX8_add wsX8_add) := goodIn_app (goodIn_of _ (by decide +kernel)) ggX8_does_X8_add
set_option maxRecDepth 20000 in
theorem ggX8_does_X8_setWeight : GoodIn wsX8_does wsX8_setWeight := goodIn_r _ [27, 8, 28, 29, 30, 6, 31, 9, 10, 11, 12, 13, 14, 15, 16, 17, 18, 19, 20, 21, 22, 23, 82, 83, 84, 85, 86, 87, 88, 89, 90, 91, 92, 93, 94, 95] (by decide +kernel) (by decide +kernel)
set_option maxRecDepth 20000 in
theorem gX8_does_X8_setWeight : GoodIn wsX8_does (wsV RX8 202 RX8 yX8_setWeight wsX8_setWeight) := goodIn_app (goodIn_of _ (by decide +kernel)) ggX8_does_X8_setWeight
set_option maxRecDepth 20000 in
theorem ggX8_does_X8_setQuota : GoodIn wsX8_does wsX8_setQuota := goodIn_r _ [35, 8, 9, 10, 6, 11, 12, 13, 14, 15, 16, 17, 18, 19, 20, 21, 22, 23, 82, 83, 84, 85, 86, 87, 88, 89, 90, 91, 92, 93, 94, 95] (by decide +kernel) (by decide +kernel)
set_option maxRecDepth 20000 in
theorem gX8_does_X8_setQuota : GoodIn wsX8_does (wsV RX8 205 RX8 yX8_setQuota wsX8_setQuota) := goodIn_app (goodIn_of _ (by decide +kernel)) ggX8_does_X8_setQuota
set_option maxRecDepth 20000 in
theorem ggX8_does_X8_follow : GoodIn wsX8_does wsX8_follow := goodIn_r _ [39, 8, 28, 29, 30, 6, 31, 40, 41, 42, 43, 44, 45, 46, 47, 12, 13, 14, 15, 16, 17, 18, 19, 20, 21, 22, 23, 48, 49, 50, 51, 52, 53, 54, 55, 56, 57, 58, 59, 60, 61, 62, 82, 83, 84, 85, 86, 87, 88, 89, 90, 91, 92, 93, 94, 95] (by decide +kernel) (by decide +kernel)
set_option maxRecDepth 20000 in
theorem gX8_does_X8_follow : GoodIn wsX8_does (wsV RX8 208 RX8 yX8_follow wsX8_follow) := goodIn_app (goodIn_of _ (by decide +kernel)) ggX8_does_X8_follow
set_option maxRecDepth 20000 in
theorem ggX8_does_X8_leave : GoodIn wsX8_does wsX8_leave := goodIn_r _ [66, 8, 28, 29, 30, 6, 31, 40, 41, 42, 43, 12, 13, 14, 15, 16, 17, 18, 19, 20, 21, 22, 23, 82, 83, 84, 85, 86, 87, 88, 89, 90, 91, 92, 93, 94, 95] (by decide +kernel) (by decide +kernel)
set_option maxRecDepth 20000 in
theorem gX8_does_X8_leave : GoodIn wsX8_does (wsV RX8 211 RX8 yX8_leave wsX8_leave) := goodIn_app (goodIn_of _ (by decide +kernel)) ggX8_does_X8_leave
set_option maxRecDepth 20000 in
theorem ggX8_does_X8_addRule : GoodIn wsX8_does wsX8_addRule := goodIn_r _ [70, 8, 9, 10, 6, 11, 71, 72, 73, 12, 13, 14, 15, 16, 17, 18, 19, 20, 21, 22, 23, 82, 83, 84, 85, 86, 87, 88, 89, 90, 91, 92, 93, 94, 95] (by decide +kernel) (by decide +kernel)
set_option maxRecDepth 20000 in
theorem gX8_does_X8_addRule : GoodIn wsX8_does (wsV RX8 214 RX8 yX8_addRule wsX8_addRule) := goodIn_app (goodIn_of _ (by decide +kernel)) ggX8_does_X8_addRule
set_option maxRecDepth 20000 in
theorem ggX8_does_X8_dropRule : GoodIn wsX8_does wsX8_dropRule := goodIn_r _ [77, 8, 78, 79, 80, 6, 81, 12, 13, 14, 15, 16, 17, 18, 19, 20, 21, 22, 23, 82, 83, 84, 85, 86, 87, 88, 89, 90, 91, 92, 93, 94, 95] (by decide +kernel) (by decide +kernel)
set_option maxRecDepth 20000 in
theorem gX8_does_X8_dropRule : GoodIn wsX8_does (wsV RX8 217 RX8 yX8_dropRule wsX8_dropRule) := goodIn_app (goodIn_of _ (by decide +kernel)) ggX8_does_X8_dropRule
theorem dX8_does_0 : decode cX8_does 0 = .ok (.aload_n 0, 1) := by decide +kernel
theorem dX8_does_1 : decode cX8_does 1 = .ok (.getfield 189, 3) := by decide +kernel
theorem dX8_does_4 : decode cX8_does 4 = .ok (.tableswitch 124 0 5 #[40, 51, 68, 79, 96, 107], 40) := by decide +kernel
theorem dX8_does_44 : decode cX8_does 44 = .ok (.aload_n 0, 1) := by decide +kernel
theorem dX8_does_45 : decode cX8_does 45 = .ok (.aload_n 0, 1) := by decide +kernel
theorem dX8_does_46 : decode cX8_does 46 = .ok (.getfield 29, 3) := by decide +kernel
theorem dX8_does_49 : decode cX8_does 49 = .ok (.iconst 0, 1) := by decide +kernel
theorem dX8_does_50 : decode cX8_does 50 = .ok (.iaload, 1) := by decide +kernel
theorem dX8_does_51 : decode cX8_does 51 = .ok (.invokevirtual 199, 3) := by decide +kernel
theorem dX8_does_54 : decode cX8_does 54 = .ok (.ireturn, 1) := by decide +kernel
theorem dX8_does_55 : decode cX8_does 55 = .ok (.aload_n 0, 1) := by decide +kernel
theorem dX8_does_56 : decode cX8_does 56 = .ok (.aload_n 0, 1) := by decide +kernel
theorem dX8_does_57 : decode cX8_does 57 = .ok (.getfield 29, 3) := by decide +kernel
theorem dX8_does_60 : decode cX8_does 60 = .ok (.iconst 0, 1) := by decide +kernel
theorem dX8_does_61 : decode cX8_does 61 = .ok (.iaload, 1) := by decide +kernel
theorem dX8_does_62 : decode cX8_does 62 = .ok (.aload_n 0, 1) := by decide +kernel
theorem dX8_does_63 : decode cX8_does 63 = .ok (.getfield 29, 3) := by decide +kernel
theorem dX8_does_66 : decode cX8_does 66 = .ok (.iconst 1, 1) := by decide +kernel
theorem dX8_does_67 : decode cX8_does 67 = .ok (.iaload, 1) := by decide +kernel
theorem dX8_does_68 : decode cX8_does 68 = .ok (.invokevirtual 202, 3) := by decide +kernel
theorem dX8_does_71 : decode cX8_does 71 = .ok (.ireturn, 1) := by decide +kernel
theorem dX8_does_72 : decode cX8_does 72 = .ok (.aload_n 0, 1) := by decide +kernel
theorem dX8_does_73 : decode cX8_does 73 = .ok (.aload_n 0, 1) := by decide +kernel
theorem dX8_does_74 : decode cX8_does 74 = .ok (.getfield 29, 3) := by decide +kernel
theorem dX8_does_77 : decode cX8_does 77 = .ok (.iconst 0, 1) := by decide +kernel
theorem dX8_does_78 : decode cX8_does 78 = .ok (.iaload, 1) := by decide +kernel
theorem dX8_does_79 : decode cX8_does 79 = .ok (.invokevirtual 205, 3) := by decide +kernel
theorem dX8_does_82 : decode cX8_does 82 = .ok (.ireturn, 1) := by decide +kernel
theorem dX8_does_83 : decode cX8_does 83 = .ok (.aload_n 0, 1) := by decide +kernel
theorem dX8_does_84 : decode cX8_does 84 = .ok (.aload_n 0, 1) := by decide +kernel
theorem dX8_does_85 : decode cX8_does 85 = .ok (.getfield 29, 3) := by decide +kernel
theorem dX8_does_88 : decode cX8_does 88 = .ok (.iconst 0, 1) := by decide +kernel
theorem dX8_does_89 : decode cX8_does 89 = .ok (.iaload, 1) := by decide +kernel
theorem dX8_does_90 : decode cX8_does 90 = .ok (.aload_n 0, 1) := by decide +kernel
theorem dX8_does_91 : decode cX8_does 91 = .ok (.getfield 29, 3) := by decide +kernel
theorem dX8_does_94 : decode cX8_does 94 = .ok (.iconst 1, 1) := by decide +kernel
theorem dX8_does_95 : decode cX8_does 95 = .ok (.iaload, 1) := by decide +kernel
theorem dX8_does_96 : decode cX8_does 96 = .ok (.invokevirtual 208, 3) := by decide +kernel
theorem dX8_does_99 : decode cX8_does 99 = .ok (.ireturn, 1) := by decide +kernel
theorem dX8_does_100 : decode cX8_does 100 = .ok (.aload_n 0, 1) := by decide +kernel
theorem dX8_does_101 : decode cX8_does 101 = .ok (.aload_n 0, 1) := by decide +kernel
theorem dX8_does_102 : decode cX8_does 102 = .ok (.getfield 29, 3) := by decide +kernel
theorem dX8_does_105 : decode cX8_does 105 = .ok (.iconst 0, 1) := by decide +kernel
theorem dX8_does_106 : decode cX8_does 106 = .ok (.iaload, 1) := by decide +kernel
theorem dX8_does_107 : decode cX8_does 107 = .ok (.invokevirtual 211, 3) := by decide +kernel
theorem dX8_does_110 : decode cX8_does 110 = .ok (.ireturn, 1) := by decide +kernel
theorem dX8_does_111 : decode cX8_does 111 = .ok (.aload_n 0, 1) := by decide +kernel
theorem dX8_does_112 : decode cX8_does 112 = .ok (.aload_n 0, 1) := by decide +kernel
theorem dX8_does_113 : decode cX8_does 113 = .ok (.getfield 29, 3) := by decide +kernel
theorem dX8_does_116 : decode cX8_does 116 = .ok (.iconst 0, 1) := by decide +kernel
theorem dX8_does_117 : decode cX8_does 117 = .ok (.iaload, 1) := by decide +kernel
theorem dX8_does_118 : decode cX8_does 118 = .ok (.aload_n 0, 1) := by decide +kernel
theorem dX8_does_119 : decode cX8_does 119 = .ok (.getfield 29, 3) := by decide +kernel
theorem dX8_does_122 : decode cX8_does 122 = .ok (.iconst 1, 1) := by decide +kernel
theorem dX8_does_123 : decode cX8_does 123 = .ok (.iaload, 1) := by decide +kernel
theorem dX8_does_124 : decode cX8_does 124 = .ok (.invokevirtual 214, 3) := by decide +kernel
theorem dX8_does_127 : decode cX8_does 127 = .ok (.ireturn, 1) := by decide +kernel
theorem dX8_does_128 : decode cX8_does 128 = .ok (.aload_n 0, 1) := by decide +kernel
theorem dX8_does_129 : decode cX8_does 129 = .ok (.aload_n 0, 1) := by decide +kernel
theorem dX8_does_130 : decode cX8_does 130 = .ok (.getfield 29, 3) := by decide +kernel
theorem dX8_does_133 : decode cX8_does 133 = .ok (.iconst 0, 1) := by decide +kernel
theorem dX8_does_134 : decode cX8_does 134 = .ok (.iaload, 1) := by decide +kernel
theorem dX8_does_135 : decode cX8_does 135 = .ok (.invokevirtual 217, 3) := by decide +kernel
theorem dX8_does_138 : decode cX8_does 138 = .ok (.ireturn, 1) := by decide +kernel
set_option maxRecDepth 20000 in
theorem ggX8_runCommands_X8_fault : GoodIn wsX8_runCommands wsX8_fault := goodIn_r _ [9, 3, 4, 10, 11, 12, 8, 13, 14, 15, 16, 17, 18, 19, 20, 21, 22, 23, 24, 25, 26, 27, 28, 29, 30, 31, 32, 33, 34, 35, 36, 37, 38, 39, 40, 41, 42, 43, 121, 122, 123, 124, 125, 126, 127, 128, 129, 130, 131, 132, 133, 134] (by decide +kernel) (by decide +kernel)
set_option maxRecDepth 20000 in
theorem gX8_runCommands_X8_fault : GoodIn wsX8_runCommands (wsV RX8 220 RX8 yX8_fault wsX8_fault) := goodIn_app (goodIn_of _ (by decide +kernel)) ggX8_runCommands_X8_fault
set_option maxRecDepth 20000 in
theorem ggX8_runCommands_X8_saves : GoodIn wsX8_runCommands wsX8_saves := goodIn_r _ [47, 2, 48, 49, 50, 121, 122, 123, 124, 125, 126, 127, 128, 129, 130, 131, 132, 133, 134] (by decide +kernel) (by decide +kernel)
set_option maxRecDepth 20000 in
theorem gX8_runCommands_X8_saves : GoodIn wsX8_runCommands (wsV RX8 100 RX8 yX8_saves wsX8_saves) := goodIn_app (goodIn_of _ (by decide +kernel)) ggX8_runCommands_X8_saves
set_option maxRecDepth 20000 in
theorem ggX8_runCommands_X8_skips : GoodIn wsX8_runCommands wsX8_skips := goodIn_r _ [13, 3, 14, 15, 16, 8, 17, 4, 18, 19, 20, 21, 121, 122, 123, 124, 125, 126, 127, 128, 129, 130, 131, 132, 133, 134] (by decide +kernel) (by decide +kernel)
set_option maxRecDepth 20000 in
theorem gX8_runCommands_X8_skips : GoodIn wsX8_runCommands (wsV RX8 178 RX8 yX8_skips wsX8_skips) := goodIn_app (goodIn_of _ (by decide +kernel)) ggX8_runCommands_X8_skips
set_option maxRecDepth 20000 in
theorem ggX8_runCommands_X8_reads : GoodIn wsX8_runCommands wsX8_reads := goodIn_r _ [25, 3, 26, 14, 15, 16, 8, 17, 4, 18, 19, 20, 21, 27, 28, 29, 30, 31, 32, 33, 34, 35, 36, 37, 38, 39, 40, 41, 42, 43, 10, 11, 12, 13, 121, 122, 123, 124, 125, 126, 127, 128, 129, 130, 131, 132, 133, 134] (by decide +kernel) (by decide +kernel)
set_option maxRecDepth 20000 in
theorem gX8_runCommands_X8_reads : GoodIn wsX8_runCommands (wsV RX8 195 RX8 yX8_reads wsX8_reads) := goodIn_app (goodIn_of _ (by decide +kernel)) ggX8_runCommands_X8_reads
set_option maxRecDepth 20000 in
theorem ggX8_runCommands_X8_does : GoodIn wsX8_runCommands wsX8_does := goodIn_r _ [54, 26, 43, 55, 56, 57, 8, 58, 50, 19, 20, 21, 59, 60, 61, 62, 1, 44, 45, 46, 47, 2, 48, 49, 63, 64, 65, 66, 67, 68, 69, 70, 71, 72, 73, 74, 75, 76, 77, 78, 79, 80, 81, 82, 83, 84, 85, 86, 87, 88, 89, 90, 91, 92, 93, 94, 95, 96, 97, 98, 99, 100, 101, 102, 103, 104, 105, 106, 107, 108, 109, 110, 111, 112, 113, 114, 115, 116, 117, 118, 119, 120, 121, 122, 123, 124, 125, 126, 127, 128, 129, 130, 131, 132, 133, 134] (by decide +kernel) (by decide +kernel)
set_option maxRecDepth 20000 in
theorem gX8_runCommands_X8_does : GoodIn wsX8_runCommands (wsV RX8 223 RX8 yX8_does wsX8_does) := goodIn_app (goodIn_of _ (by decide +kernel)) ggX8_runCommands_X8_does
theorem dX8_runCommands_0 : decode cX8_runCommands 0 = .ok (.aload_n 0, 1) := by decide +kernel
theorem dX8_runCommands_1 : decode cX8_runCommands 1 = .ok (.iconst 0, 1) := by decide +kernel
theorem dX8_runCommands_2 : decode cX8_runCommands 2 = .ok (.putfield 32, 3) := by decide +kernel
theorem dX8_runCommands_5 : decode cX8_runCommands 5 = .ok (.aload_n 0, 1) := by decide +kernel
theorem dX8_runCommands_6 : decode cX8_runCommands 6 = .ok (.invokevirtual 220, 3) := by decide +kernel
theorem dX8_runCommands_9 : decode cX8_runCommands 9 = .ok (.istore_n 1, 1) := by decide +kernel
theorem dX8_runCommands_10 : decode cX8_runCommands 10 = .ok (.iload_n 1, 1) := by decide +kernel
theorem dX8_runCommands_11 : decode cX8_runCommands 11 = .ok (.iconst (-1), 1) := by decide +kernel
theorem dX8_runCommands_12 : decode cX8_runCommands 12 = .ok (.if_icmp .eq 8, 3) := by decide +kernel
theorem dX8_runCommands_15 : decode cX8_runCommands 15 = .ok (.bipush (-10), 2) := by decide +kernel
theorem dX8_runCommands_17 : decode cX8_runCommands 17 = .ok (.iload_n 1, 1) := by decide +kernel
theorem dX8_runCommands_18 : decode cX8_runCommands 18 = .ok (.isub, 1) := by decide +kernel
theorem dX8_runCommands_19 : decode cX8_runCommands 19 = .ok (.ireturn, 1) := by decide +kernel
theorem dX8_runCommands_20 : decode cX8_runCommands 20 = .ok (.aload_n 0, 1) := by decide +kernel
theorem dX8_runCommands_21 : decode cX8_runCommands 21 = .ok (.invokevirtual 100, 3) := by decide +kernel
theorem dX8_runCommands_24 : decode cX8_runCommands 24 = .ok (.aload_n 0, 1) := by decide +kernel
theorem dX8_runCommands_25 : decode cX8_runCommands 25 = .ok (.iconst 1, 1) := by decide +kernel
theorem dX8_runCommands_26 : decode cX8_runCommands 26 = .ok (.putfield 36, 3) := by decide +kernel
theorem dX8_runCommands_29 : decode cX8_runCommands 29 = .ok (.iconst 0, 1) := by decide +kernel
theorem dX8_runCommands_30 : decode cX8_runCommands 30 = .ok (.istore_n 2, 1) := by decide +kernel
theorem dX8_runCommands_31 : decode cX8_runCommands 31 = .ok (.iconst 1, 1) := by decide +kernel
theorem dX8_runCommands_32 : decode cX8_runCommands 32 = .ok (.istore_n 3, 1) := by decide +kernel
theorem dX8_runCommands_33 : decode cX8_runCommands 33 = .ok (.aload_n 0, 1) := by decide +kernel
theorem dX8_runCommands_34 : decode cX8_runCommands 34 = .ok (.iconst 0, 1) := by decide +kernel
theorem dX8_runCommands_35 : decode cX8_runCommands 35 = .ok (.putfield 164, 3) := by decide +kernel
theorem dX8_runCommands_38 : decode cX8_runCommands 38 = .ok (.aload_n 0, 1) := by decide +kernel
theorem dX8_runCommands_39 : decode cX8_runCommands 39 = .ok (.invokevirtual 178, 3) := by decide +kernel
theorem dX8_runCommands_42 : decode cX8_runCommands 42 = .ok (.iload_n 3, 1) := by decide +kernel
theorem dX8_runCommands_43 : decode cX8_runCommands 43 = .ok (.ifCond .eq 56, 3) := by decide +kernel
theorem dX8_runCommands_46 : decode cX8_runCommands 46 = .ok (.aload_n 0, 1) := by decide +kernel
theorem dX8_runCommands_47 : decode cX8_runCommands 47 = .ok (.getfield 164, 3) := by decide +kernel
theorem dX8_runCommands_50 : decode cX8_runCommands 50 = .ok (.aload_n 0, 1) := by decide +kernel
theorem dX8_runCommands_51 : decode cX8_runCommands 51 = .ok (.getfield 141, 3) := by decide +kernel
theorem dX8_runCommands_54 : decode cX8_runCommands 54 = .ok (.if_icmp .ge 45, 3) := by decide +kernel
theorem dX8_runCommands_57 : decode cX8_runCommands 57 = .ok (.aload_n 0, 1) := by decide +kernel
theorem dX8_runCommands_58 : decode cX8_runCommands 58 = .ok (.invokevirtual 195, 3) := by decide +kernel
theorem dX8_runCommands_61 : decode cX8_runCommands 61 = .ok (.ifCond .eq 21, 3) := by decide +kernel
theorem dX8_runCommands_64 : decode cX8_runCommands 64 = .ok (.aload_n 0, 1) := by decide +kernel
theorem dX8_runCommands_65 : decode cX8_runCommands 65 = .ok (.invokevirtual 223, 3) := by decide +kernel
theorem dX8_runCommands_68 : decode cX8_runCommands 68 = .ok (.ifCond .lt 14, 3) := by decide +kernel
theorem dX8_runCommands_71 : decode cX8_runCommands 71 = .ok (.aload_n 0, 1) := by decide +kernel
theorem dX8_runCommands_72 : decode cX8_runCommands 72 = .ok (.getfield 32, 3) := by decide +kernel
theorem dX8_runCommands_75 : decode cX8_runCommands 75 = .ok (.ifCond .ne 7, 3) := by decide +kernel
theorem dX8_runCommands_78 : decode cX8_runCommands 78 = .ok (.iconst 1, 1) := by decide +kernel
theorem dX8_runCommands_79 : decode cX8_runCommands 79 = .ok (.goto 4, 3) := by decide +kernel
theorem dX8_runCommands_82 : decode cX8_runCommands 82 = .ok (.iconst 0, 1) := by decide +kernel
theorem dX8_runCommands_83 : decode cX8_runCommands 83 = .ok (.istore_n 3, 1) := by decide +kernel
theorem dX8_runCommands_84 : decode cX8_runCommands 84 = .ok (.iload_n 2, 1) := by decide +kernel
theorem dX8_runCommands_85 : decode cX8_runCommands 85 = .ok (.iload_n 3, 1) := by decide +kernel
theorem dX8_runCommands_86 : decode cX8_runCommands 86 = .ok (.ifCond .eq 7, 3) := by decide +kernel
theorem dX8_runCommands_89 : decode cX8_runCommands 89 = .ok (.iconst 1, 1) := by decide +kernel
theorem dX8_runCommands_90 : decode cX8_runCommands 90 = .ok (.goto 4, 3) := by decide +kernel
theorem dX8_runCommands_93 : decode cX8_runCommands 93 = .ok (.iconst 0, 1) := by decide +kernel
theorem dX8_runCommands_94 : decode cX8_runCommands 94 = .ok (.iadd, 1) := by decide +kernel
theorem dX8_runCommands_95 : decode cX8_runCommands 95 = .ok (.istore_n 2, 1) := by decide +kernel
theorem dX8_runCommands_96 : decode cX8_runCommands 96 = .ok (.goto (-54), 3) := by decide +kernel
theorem dX8_runCommands_99 : decode cX8_runCommands 99 = .ok (.aload_n 0, 1) := by decide +kernel
theorem dX8_runCommands_100 : decode cX8_runCommands 100 = .ok (.iconst 0, 1) := by decide +kernel
theorem dX8_runCommands_101 : decode cX8_runCommands 101 = .ok (.putfield 36, 3) := by decide +kernel
theorem dX8_runCommands_104 : decode cX8_runCommands 104 = .ok (.aload_n 0, 1) := by decide +kernel
theorem dX8_runCommands_105 : decode cX8_runCommands 105 = .ok (.iconst 0, 1) := by decide +kernel
theorem dX8_runCommands_106 : decode cX8_runCommands 106 = .ok (.putfield 32, 3) := by decide +kernel
theorem dX8_runCommands_109 : decode cX8_runCommands 109 = .ok (.iload_n 2, 1) := by decide +kernel
theorem dX8_runCommands_110 : decode cX8_runCommands 110 = .ok (.ireturn, 1) := by decide +kernel
set_option maxRecDepth 20000 in
theorem ggX8_undo_X8_throwsAt : GoodIn wsX8_undo wsX8_throwsAt := goodIn_r _ [8, 9, 10, 11, 12, 13, 14, 15, 16, 17, 18, 19, 20, 21, 22, 23] (by decide +kernel) (by decide +kernel)
set_option maxRecDepth 20000 in
theorem gX8_undo_X8_throwsAt : GoodIn wsX8_undo (wsV RX8 97 RX8 yX8_throwsAt wsX8_throwsAt) := goodIn_app (goodIn_of _ (by decide +kernel)) ggX8_undo_X8_throwsAt
theorem dX8_undo_0 : decode cX8_undo 0 = .ok (.aload_n 0, 1) := by decide +kernel
theorem dX8_undo_1 : decode cX8_undo 1 = .ok (.aload_n 0, 1) := by decide +kernel
theorem dX8_undo_2 : decode cX8_undo 2 = .ok (.getfield 40, 3) := by decide +kernel
theorem dX8_undo_5 : decode cX8_undo 5 = .ok (.ifCond .ne 7, 3) := by decide +kernel
theorem dX8_undo_8 : decode cX8_undo 8 = .ok (.iconst 1, 1) := by decide +kernel
theorem dX8_undo_9 : decode cX8_undo 9 = .ok (.goto 4, 3) := by decide +kernel
theorem dX8_undo_12 : decode cX8_undo 12 = .ok (.iconst 0, 1) := by decide +kernel
theorem dX8_undo_13 : decode cX8_undo 13 = .ok (.invokevirtual 97, 3) := by decide +kernel
theorem dX8_undo_16 : decode cX8_undo 16 = .ok (.ifCond .eq 5, 3) := by decide +kernel
theorem dX8_undo_19 : decode cX8_undo 19 = .ok (.iconst 0, 1) := by decide +kernel
theorem dX8_undo_20 : decode cX8_undo 20 = .ok (.ireturn, 1) := by decide +kernel
theorem dX8_undo_21 : decode cX8_undo 21 = .ok (.aload_n 0, 1) := by decide +kernel
theorem dX8_undo_22 : decode cX8_undo 22 = .ok (.dup, 1) := by decide +kernel
theorem dX8_undo_23 : decode cX8_undo 23 = .ok (.getfield 40, 3) := by decide +kernel
theorem dX8_undo_26 : decode cX8_undo 26 = .ok (.iconst 1, 1) := by decide +kernel
theorem dX8_undo_27 : decode cX8_undo 27 = .ok (.isub, 1) := by decide +kernel
theorem dX8_undo_28 : decode cX8_undo 28 = .ok (.putfield 40, 3) := by decide +kernel
theorem dX8_undo_31 : decode cX8_undo 31 = .ok (.iconst 0, 1) := by decide +kernel
theorem dX8_undo_32 : decode cX8_undo 32 = .ok (.istore_n 1, 1) := by decide +kernel
theorem dX8_undo_33 : decode cX8_undo 33 = .ok (.iload_n 1, 1) := by decide +kernel
theorem dX8_undo_34 : decode cX8_undo 34 = .ok (.bipush 27, 2) := by decide +kernel
theorem dX8_undo_36 : decode cX8_undo 36 = .ok (.if_icmp .ge 29, 3) := by decide +kernel
theorem dX8_undo_39 : decode cX8_undo 39 = .ok (.aload_n 0, 1) := by decide +kernel
theorem dX8_undo_40 : decode cX8_undo 40 = .ok (.getfield 7, 3) := by decide +kernel
theorem dX8_undo_43 : decode cX8_undo 43 = .ok (.iload_n 1, 1) := by decide +kernel
theorem dX8_undo_44 : decode cX8_undo 44 = .ok (.aload_n 0, 1) := by decide +kernel
theorem dX8_undo_45 : decode cX8_undo 45 = .ok (.getfield 13, 3) := by decide +kernel
theorem dX8_undo_48 : decode cX8_undo 48 = .ok (.bipush 27, 2) := by decide +kernel
theorem dX8_undo_50 : decode cX8_undo 50 = .ok (.aload_n 0, 1) := by decide +kernel
theorem dX8_undo_51 : decode cX8_undo 51 = .ok (.getfield 40, 3) := by decide +kernel
theorem dX8_undo_54 : decode cX8_undo 54 = .ok (.imul, 1) := by decide +kernel
theorem dX8_undo_55 : decode cX8_undo 55 = .ok (.iload_n 1, 1) := by decide +kernel
theorem dX8_undo_56 : decode cX8_undo 56 = .ok (.iadd, 1) := by decide +kernel
theorem dX8_undo_57 : decode cX8_undo 57 = .ok (.iaload, 1) := by decide +kernel
theorem dX8_undo_58 : decode cX8_undo 58 = .ok (.iastore, 1) := by decide +kernel
theorem dX8_undo_59 : decode cX8_undo 59 = .ok (.iinc 1 1, 3) := by decide +kernel
theorem dX8_undo_62 : decode cX8_undo 62 = .ok (.goto (-29), 3) := by decide +kernel
theorem dX8_undo_65 : decode cX8_undo 65 = .ok (.aload_n 0, 1) := by decide +kernel
theorem dX8_undo_66 : decode cX8_undo 66 = .ok (.getfield 40, 3) := by decide +kernel
theorem dX8_undo_69 : decode cX8_undo 69 = .ok (.ireturn, 1) := by decide +kernel
theorem dX8_bits_0 : decode cX8_bits 0 = .ok (.dload_n 0, 1) := by decide +kernel
theorem dX8_bits_1 : decode cX8_bits 1 = .ok (.dconst 0, 1) := by decide +kernel
theorem dX8_bits_2 : decode cX8_bits 2 = .ok (.dcmp .l, 1) := by decide +kernel
theorem dX8_bits_3 : decode cX8_bits 3 = .ok (.ifCond .ne 5, 3) := by decide +kernel
theorem dX8_bits_6 : decode cX8_bits 6 = .ok (.lconst 0, 1) := by decide +kernel
theorem dX8_bits_7 : decode cX8_bits 7 = .ok (.lreturn, 1) := by decide +kernel
theorem dX8_bits_8 : decode cX8_bits 8 = .ok (.lload_n 3, 1) := by decide +kernel
theorem dX8_bits_9 : decode cX8_bits 9 = .ok (.lstore 5, 2) := by decide +kernel
theorem dX8_bits_11 : decode cX8_bits 11 = .ok (.dload_n 0, 1) := by decide +kernel
theorem dX8_bits_12 : decode cX8_bits 12 = .ok (.dstore 7, 2) := by decide +kernel
theorem dX8_bits_14 : decode cX8_bits 14 = .ok (.dload 7, 2) := by decide +kernel
theorem dX8_bits_16 : decode cX8_bits 16 = .ok (.dconst 1, 1) := by decide +kernel
theorem dX8_bits_17 : decode cX8_bits 17 = .ok (.dcmp .g, 1) := by decide +kernel
theorem dX8_bits_18 : decode cX8_bits 18 = .ok (.ifCond .ge 20, 3) := by decide +kernel
theorem dX8_bits_21 : decode cX8_bits 21 = .ok (.dload 7, 2) := by decide +kernel
theorem dX8_bits_23 : decode cX8_bits 23 = .ok (.ldc2_w 226, 3) := by decide +kernel
theorem dX8_bits_26 : decode cX8_bits 26 = .ok (.dmul, 1) := by decide +kernel
theorem dX8_bits_27 : decode cX8_bits 27 = .ok (.dstore 7, 2) := by decide +kernel
theorem dX8_bits_29 : decode cX8_bits 29 = .ok (.lload 5, 2) := by decide +kernel
theorem dX8_bits_31 : decode cX8_bits 31 = .ok (.lconst 1, 1) := by decide +kernel
theorem dX8_bits_32 : decode cX8_bits 32 = .ok (.lsub, 1) := by decide +kernel
theorem dX8_bits_33 : decode cX8_bits 33 = .ok (.lstore 5, 2) := by decide +kernel
theorem dX8_bits_35 : decode cX8_bits 35 = .ok (.goto (-21), 3) := by decide +kernel
theorem dX8_bits_38 : decode cX8_bits 38 = .ok (.lload 5, 2) := by decide +kernel
theorem dX8_bits_40 : decode cX8_bits 40 = .ok (.iload_n 2, 1) := by decide +kernel
theorem dX8_bits_41 : decode cX8_bits 41 = .ok (.lshl, 1) := by decide +kernel
theorem dX8_bits_42 : decode cX8_bits 42 = .ok (.dload 7, 2) := by decide +kernel
theorem dX8_bits_44 : decode cX8_bits 44 = .ok (.dconst 1, 1) := by decide +kernel
theorem dX8_bits_45 : decode cX8_bits 45 = .ok (.dsub, 1) := by decide +kernel
theorem dX8_bits_46 : decode cX8_bits 46 = .ok (.lconst 1, 1) := by decide +kernel
theorem dX8_bits_47 : decode cX8_bits 47 = .ok (.iload_n 2, 1) := by decide +kernel
theorem dX8_bits_48 : decode cX8_bits 48 = .ok (.lshl, 1) := by decide +kernel
theorem dX8_bits_49 : decode cX8_bits 49 = .ok (.l2d, 1) := by decide +kernel
theorem dX8_bits_50 : decode cX8_bits 50 = .ok (.dmul, 1) := by decide +kernel
theorem dX8_bits_51 : decode cX8_bits 51 = .ok (.d2l, 1) := by decide +kernel
theorem dX8_bits_52 : decode cX8_bits 52 = .ok (.ladd, 1) := by decide +kernel
theorem dX8_bits_53 : decode cX8_bits 53 = .ok (.lreturn, 1) := by decide +kernel
set_option maxRecDepth 20000 in
theorem ggX8_digest_X8_lays : GoodIn wsX8_digest wsX8_lays := goodIn_r _ [12, 13, 14, 15, 16, 17, 11, 18, 2, 19, 20, 21, 22, 23, 24, 25, 26, 27, 28, 29, 30, 31, 32, 33, 34, 35, 36, 37, 38, 39, 40, 41, 42, 43, 44, 45, 46, 47, 48, 121, 122, 123, 124, 125, 126, 127, 128, 129, 130, 131, 132, 133, 134] (by decide +kernel) (by decide +kernel)
set_option maxRecDepth 20000 in
theorem gX8_digest_X8_lays : GoodIn wsX8_digest (wsV RX8 121 RX8 yX8_lays wsX8_lays) := goodIn_app (goodIn_of _ (by decide +kernel)) ggX8_digest_X8_lays
set_option maxRecDepth 20000 in
theorem ggX8_digest_X8_wholeOf : GoodIn wsX8_digest wsX8_wholeOf := goodIn_r _ [52, 2, 13, 53, 46, 47, 11, 48, 38, 39, 40, 41, 35, 36, 37, 54, 55, 56, 57, 14, 58, 59, 60, 61, 62, 63, 64, 65, 66, 67, 68, 69, 70, 71, 72, 73, 19, 20, 21, 22, 23, 24, 25, 26, 74, 75, 76, 77, 78, 79, 80, 81, 82, 83, 84, 85, 121, 122, 123, 124, 125, 126, 127, 128, 129, 130, 131, 132, 133, 134] (by decide +kernel) (by decide +kernel)
set_option maxRecDepth 20000 in
theorem gX8_digest_X8_wholeOf : GoodIn wsX8_digest (wsV RX8 144 RX8 yX8_wholeOf wsX8_wholeOf) := goodIn_app (goodIn_of _ (by decide +kernel)) ggX8_digest_X8_wholeOf
set_option maxRecDepth 20000 in
theorem ggX8_digest_X8_memberOf : GoodIn wsX8_digest wsX8_memberOf := goodIn_r _ [89, 2, 90, 91, 92, 11, 93, 94, 95, 96, 97, 19, 20, 21, 22, 23, 24, 25, 26, 31, 32, 33, 34, 35, 36, 37, 38, 39, 40, 41, 66, 67, 68, 69, 14, 98, 99, 100, 101, 13, 46, 47, 48, 102, 103, 104, 70, 71, 72, 73, 74, 75, 76, 77, 78, 79, 80, 81, 121, 122, 123, 124, 125, 126, 127, 128, 129, 130, 131, 132, 133, 134] (by decide +kernel) (by decide +kernel)
set_option maxRecDepth 20000 in
theorem gX8_digest_X8_memberOf : GoodIn wsX8_digest (wsV RX8 125 RX8 yX8_memberOf wsX8_memberOf) := goodIn_app (goodIn_of _ (by decide +kernel)) ggX8_digest_X8_memberOf
set_option maxRecDepth 20000 in
theorem ggX8_digest_X8_shareOf : GoodIn wsX8_digest wsX8_shareOf := goodIn_r _ [108, 62, 63, 64, 11, 65, 66, 67, 68, 69, 14, 35, 36, 37, 121, 122, 123, 124, 125, 126, 127, 128, 129, 130, 131, 132, 133, 134] (by decide +kernel) (by decide +kernel)
set_option maxRecDepth 20000 in
theorem gX8_digest_X8_shareOf : GoodIn wsX8_digest (wsV RX8 150 RX8 yX8_shareOf wsX8_shareOf) := goodIn_app (goodIn_of _ (by decide +kernel)) ggX8_digest_X8_shareOf
set_option maxRecDepth 20000 in
theorem ggX8_digest_X8_bits : GoodIn wsX8_digest wsX8_bits := goodIn_r _ [111, 112] (by decide +kernel) (by decide +kernel)
set_option maxRecDepth 20000 in
theorem gX8_digest_X8_bits : GoodIn wsX8_digest (va_wsS RX8 234 yX8_bits wsX8_bits) := goodIn_app (goodIn_of _ (by decide +kernel)) ggX8_digest_X8_bits
set_option maxRecDepth 20000 in
theorem ggX8_digest_X8_partOf : GoodIn wsX8_digest wsX8_partOf := goodIn_r _ [116, 13, 19, 20, 21, 11, 22, 2, 23, 24, 25, 26, 98, 99, 100, 101, 14, 46, 47, 48, 35, 36, 37, 102, 103, 104, 121, 122, 123, 124, 125, 126, 127, 128, 129, 130, 131, 132, 133, 134] (by decide +kernel) (by decide +kernel)
set_option maxRecDepth 20000 in
theorem gX8_digest_X8_partOf : GoodIn wsX8_digest (wsV RX8 154 RX8 yX8_partOf wsX8_partOf) := goodIn_app (goodIn_of _ (by decide +kernel)) ggX8_digest_X8_partOf
set_option maxRecDepth 20000 in
theorem ggX8_digest_X8_ruleOf : GoodIn wsX8_digest wsX8_ruleOf := goodIn_r _ [120, 2, 42, 43, 44, 11, 45, 46, 47, 48, 35, 36, 37, 121, 122, 123, 124, 125, 126, 127, 128, 129, 130, 131, 132, 133, 134] (by decide +kernel) (by decide +kernel)
set_option maxRecDepth 20000 in
theorem gX8_digest_X8_ruleOf : GoodIn wsX8_digest (wsV RX8 128 RX8 yX8_ruleOf wsX8_ruleOf) := goodIn_app (goodIn_of _ (by decide +kernel)) ggX8_digest_X8_ruleOf
set_option maxRecDepth 20000 in
theorem ggX8_digest_X8_isLeast : GoodIn wsX8_digest wsX8_isLeast := goodIn_r _ [61, 14, 35, 36, 11, 37, 121, 122, 123, 124, 125, 126, 127, 128, 129, 130, 131, 132, 133, 134] (by decide +kernel) (by decide +kernel)
set_option maxRecDepth 20000 in
theorem gX8_digest_X8_isLeast : GoodIn wsX8_digest (wsV RX8 131 RX8 yX8_isLeast wsX8_isLeast) := goodIn_app (goodIn_of _ (by decide +kernel)) ggX8_digest_X8_isLeast
theorem dX8_digest_0 : decode cX8_digest 0 = .ok (.aload_n 0, 1) := by decide +kernel
theorem dX8_digest_1 : decode cX8_digest 1 = .ok (.iconst 0, 1) := by decide +kernel
theorem dX8_digest_2 : decode cX8_digest 2 = .ok (.putfield 32, 3) := by decide +kernel
theorem dX8_digest_5 : decode cX8_digest 5 = .ok (.aload_n 0, 1) := by decide +kernel
theorem dX8_digest_6 : decode cX8_digest 6 = .ok (.aload_n 0, 1) := by decide +kernel
theorem dX8_digest_7 : decode cX8_digest 7 = .ok (.getfield 7, 3) := by decide +kernel
theorem dX8_digest_10 : decode cX8_digest 10 = .ok (.iconst 1, 1) := by decide +kernel
theorem dX8_digest_11 : decode cX8_digest 11 = .ok (.iaload, 1) := by decide +kernel
theorem dX8_digest_12 : decode cX8_digest 12 = .ok (.invokevirtual 121, 3) := by decide +kernel
theorem dX8_digest_15 : decode cX8_digest 15 = .ok (.ldc2_w 228, 3) := by decide +kernel
theorem dX8_digest_18 : decode cX8_digest 18 = .ok (.aload_n 0, 1) := by decide +kernel
theorem dX8_digest_19 : decode cX8_digest 19 = .ok (.getfield 40, 3) := by decide +kernel
theorem dX8_digest_22 : decode cX8_digest 22 = .ok (.i2l, 1) := by decide +kernel
theorem dX8_digest_23 : decode cX8_digest 23 = .ok (.ladd, 1) := by decide +kernel
theorem dX8_digest_24 : decode cX8_digest 24 = .ok (.lstore_n 1, 1) := by decide +kernel
theorem dX8_digest_25 : decode cX8_digest 25 = .ok (.iconst 0, 1) := by decide +kernel
theorem dX8_digest_26 : decode cX8_digest 26 = .ok (.istore_n 3, 1) := by decide +kernel
theorem dX8_digest_27 : decode cX8_digest 27 = .ok (.iload_n 3, 1) := by decide +kernel
theorem dX8_digest_28 : decode cX8_digest 28 = .ok (.bipush 12, 2) := by decide +kernel
theorem dX8_digest_30 : decode cX8_digest 30 = .ok (.if_icmp .ge 22, 3) := by decide +kernel
theorem dX8_digest_33 : decode cX8_digest 33 = .ok (.ldc2_w 230, 3) := by decide +kernel
theorem dX8_digest_36 : decode cX8_digest 36 = .ok (.lload_n 1, 1) := by decide +kernel
theorem dX8_digest_37 : decode cX8_digest 37 = .ok (.lmul, 1) := by decide +kernel
theorem dX8_digest_38 : decode cX8_digest 38 = .ok (.aload_n 0, 1) := by decide +kernel
theorem dX8_digest_39 : decode cX8_digest 39 = .ok (.iload_n 3, 1) := by decide +kernel
theorem dX8_digest_40 : decode cX8_digest 40 = .ok (.invokevirtual 144, 3) := by decide +kernel
theorem dX8_digest_43 : decode cX8_digest 43 = .ok (.i2l, 1) := by decide +kernel
theorem dX8_digest_44 : decode cX8_digest 44 = .ok (.ladd, 1) := by decide +kernel
theorem dX8_digest_45 : decode cX8_digest 45 = .ok (.lstore_n 1, 1) := by decide +kernel
theorem dX8_digest_46 : decode cX8_digest 46 = .ok (.iinc 3 1, 3) := by decide +kernel
theorem dX8_digest_49 : decode cX8_digest 49 = .ok (.goto (-22), 3) := by decide +kernel
theorem dX8_digest_52 : decode cX8_digest 52 = .ok (.iconst 0, 1) := by decide +kernel
theorem dX8_digest_53 : decode cX8_digest 53 = .ok (.istore_n 3, 1) := by decide +kernel
theorem dX8_digest_54 : decode cX8_digest 54 = .ok (.iload_n 3, 1) := by decide +kernel
theorem dX8_digest_55 : decode cX8_digest 55 = .ok (.aload_n 0, 1) := by decide +kernel
theorem dX8_digest_56 : decode cX8_digest 56 = .ok (.getfield 7, 3) := by decide +kernel
theorem dX8_digest_59 : decode cX8_digest 59 = .ok (.iconst 0, 1) := by decide +kernel
theorem dX8_digest_60 : decode cX8_digest 60 = .ok (.iaload, 1) := by decide +kernel
theorem dX8_digest_61 : decode cX8_digest 61 = .ok (.if_icmp .ge 81, 3) := by decide +kernel
theorem dX8_digest_64 : decode cX8_digest 64 = .ok (.iconst 0, 1) := by decide +kernel
theorem dX8_digest_65 : decode cX8_digest 65 = .ok (.istore 4, 2) := by decide +kernel
theorem dX8_digest_67 : decode cX8_digest 67 = .ok (.iload 4, 2) := by decide +kernel
theorem dX8_digest_69 : decode cX8_digest 69 = .ok (.bipush 8, 2) := by decide +kernel
theorem dX8_digest_71 : decode cX8_digest 71 = .ok (.if_icmp .ge 24, 3) := by decide +kernel
theorem dX8_digest_74 : decode cX8_digest 74 = .ok (.ldc2_w 230, 3) := by decide +kernel
theorem dX8_digest_77 : decode cX8_digest 77 = .ok (.lload_n 1, 1) := by decide +kernel
theorem dX8_digest_78 : decode cX8_digest 78 = .ok (.lmul, 1) := by decide +kernel
theorem dX8_digest_79 : decode cX8_digest 79 = .ok (.aload_n 0, 1) := by decide +kernel
theorem dX8_digest_80 : decode cX8_digest 80 = .ok (.iload_n 3, 1) := by decide +kernel
theorem dX8_digest_81 : decode cX8_digest 81 = .ok (.iload 4, 2) := by decide +kernel
theorem dX8_digest_83 : decode cX8_digest 83 = .ok (.invokevirtual 125, 3) := by decide +kernel
theorem dX8_digest_86 : decode cX8_digest 86 = .ok (.i2l, 1) := by decide +kernel
theorem dX8_digest_87 : decode cX8_digest 87 = .ok (.ladd, 1) := by decide +kernel
theorem dX8_digest_88 : decode cX8_digest 88 = .ok (.lstore_n 1, 1) := by decide +kernel
theorem dX8_digest_89 : decode cX8_digest 89 = .ok (.iinc 4 1, 3) := by decide +kernel
theorem dX8_digest_92 : decode cX8_digest 92 = .ok (.goto (-25), 3) := by decide +kernel
theorem dX8_digest_95 : decode cX8_digest 95 = .ok (.ldc2_w 230, 3) := by decide +kernel
theorem dX8_digest_98 : decode cX8_digest 98 = .ok (.lload_n 1, 1) := by decide +kernel
theorem dX8_digest_99 : decode cX8_digest 99 = .ok (.lmul, 1) := by decide +kernel
theorem dX8_digest_100 : decode cX8_digest 100 = .ok (.aload_n 0, 1) := by decide +kernel
theorem dX8_digest_101 : decode cX8_digest 101 = .ok (.iload_n 3, 1) := by decide +kernel
theorem dX8_digest_102 : decode cX8_digest 102 = .ok (.invokevirtual 150, 3) := by decide +kernel
theorem dX8_digest_105 : decode cX8_digest 105 = .ok (.f2d, 1) := by decide +kernel
theorem dX8_digest_106 : decode cX8_digest 106 = .ok (.bipush 23, 2) := by decide +kernel
theorem dX8_digest_108 : decode cX8_digest 108 = .ok (.ldc2_w 232, 3) := by decide +kernel
theorem dX8_digest_111 : decode cX8_digest 111 = .ok (.invokestatic 234, 3) := by decide +kernel
theorem dX8_digest_114 : decode cX8_digest 114 = .ok (.ladd, 1) := by decide +kernel
theorem dX8_digest_115 : decode cX8_digest 115 = .ok (.lstore_n 1, 1) := by decide +kernel
theorem dX8_digest_116 : decode cX8_digest 116 = .ok (.ldc2_w 230, 3) := by decide +kernel
theorem dX8_digest_119 : decode cX8_digest 119 = .ok (.lload_n 1, 1) := by decide +kernel
theorem dX8_digest_120 : decode cX8_digest 120 = .ok (.lmul, 1) := by decide +kernel
theorem dX8_digest_121 : decode cX8_digest 121 = .ok (.aload_n 0, 1) := by decide +kernel
theorem dX8_digest_122 : decode cX8_digest 122 = .ok (.iload_n 3, 1) := by decide +kernel
theorem dX8_digest_123 : decode cX8_digest 123 = .ok (.invokevirtual 154, 3) := by decide +kernel
theorem dX8_digest_126 : decode cX8_digest 126 = .ok (.bipush 52, 2) := by decide +kernel
theorem dX8_digest_128 : decode cX8_digest 128 = .ok (.ldc2_w 238, 3) := by decide +kernel
theorem dX8_digest_131 : decode cX8_digest 131 = .ok (.invokestatic 234, 3) := by decide +kernel
theorem dX8_digest_134 : decode cX8_digest 134 = .ok (.ladd, 1) := by decide +kernel
theorem dX8_digest_135 : decode cX8_digest 135 = .ok (.lstore_n 1, 1) := by decide +kernel
theorem dX8_digest_136 : decode cX8_digest 136 = .ok (.iinc 3 1, 3) := by decide +kernel
theorem dX8_digest_139 : decode cX8_digest 139 = .ok (.goto (-85), 3) := by decide +kernel
theorem dX8_digest_142 : decode cX8_digest 142 = .ok (.iconst 0, 1) := by decide +kernel
theorem dX8_digest_143 : decode cX8_digest 143 = .ok (.istore_n 3, 1) := by decide +kernel
theorem dX8_digest_144 : decode cX8_digest 144 = .ok (.iload_n 3, 1) := by decide +kernel
theorem dX8_digest_145 : decode cX8_digest 145 = .ok (.iconst 3, 1) := by decide +kernel
theorem dX8_digest_146 : decode cX8_digest 146 = .ok (.aload_n 0, 1) := by decide +kernel
theorem dX8_digest_147 : decode cX8_digest 147 = .ok (.getfield 7, 3) := by decide +kernel
theorem dX8_digest_150 : decode cX8_digest 150 = .ok (.iconst 2, 1) := by decide +kernel
theorem dX8_digest_151 : decode cX8_digest 151 = .ok (.iaload, 1) := by decide +kernel
theorem dX8_digest_152 : decode cX8_digest 152 = .ok (.imul, 1) := by decide +kernel
theorem dX8_digest_153 : decode cX8_digest 153 = .ok (.if_icmp .ge 27, 3) := by decide +kernel
theorem dX8_digest_156 : decode cX8_digest 156 = .ok (.ldc2_w 230, 3) := by decide +kernel
theorem dX8_digest_159 : decode cX8_digest 159 = .ok (.lload_n 1, 1) := by decide +kernel
theorem dX8_digest_160 : decode cX8_digest 160 = .ok (.lmul, 1) := by decide +kernel
theorem dX8_digest_161 : decode cX8_digest 161 = .ok (.aload_n 0, 1) := by decide +kernel
theorem dX8_digest_162 : decode cX8_digest 162 = .ok (.iload_n 3, 1) := by decide +kernel
theorem dX8_digest_163 : decode cX8_digest 163 = .ok (.iconst 3, 1) := by decide +kernel
theorem dX8_digest_164 : decode cX8_digest 164 = .ok (.idiv, 1) := by decide +kernel
theorem dX8_digest_165 : decode cX8_digest 165 = .ok (.iload_n 3, 1) := by decide +kernel
theorem dX8_digest_166 : decode cX8_digest 166 = .ok (.iconst 3, 1) := by decide +kernel
theorem dX8_digest_167 : decode cX8_digest 167 = .ok (.irem, 1) := by decide +kernel
theorem dX8_digest_168 : decode cX8_digest 168 = .ok (.invokevirtual 128, 3) := by decide +kernel
theorem dX8_digest_171 : decode cX8_digest 171 = .ok (.i2l, 1) := by decide +kernel
theorem dX8_digest_172 : decode cX8_digest 172 = .ok (.ladd, 1) := by decide +kernel
theorem dX8_digest_173 : decode cX8_digest 173 = .ok (.lstore_n 1, 1) := by decide +kernel
theorem dX8_digest_174 : decode cX8_digest 174 = .ok (.iinc 3 1, 3) := by decide +kernel
theorem dX8_digest_177 : decode cX8_digest 177 = .ok (.goto (-33), 3) := by decide +kernel
theorem dX8_digest_180 : decode cX8_digest 180 = .ok (.iconst 0, 1) := by decide +kernel
theorem dX8_digest_181 : decode cX8_digest 181 = .ok (.istore_n 3, 1) := by decide +kernel
theorem dX8_digest_182 : decode cX8_digest 182 = .ok (.iload_n 3, 1) := by decide +kernel
theorem dX8_digest_183 : decode cX8_digest 183 = .ok (.sipush 256, 3) := by decide +kernel
theorem dX8_digest_186 : decode cX8_digest 186 = .ok (.if_icmp .ge 30, 3) := by decide +kernel
theorem dX8_digest_189 : decode cX8_digest 189 = .ok (.aload_n 0, 1) := by decide +kernel
theorem dX8_digest_190 : decode cX8_digest 190 = .ok (.iload_n 3, 1) := by decide +kernel
theorem dX8_digest_191 : decode cX8_digest 191 = .ok (.invokevirtual 131, 3) := by decide +kernel
theorem dX8_digest_194 : decode cX8_digest 194 = .ok (.ifCond .eq 14, 3) := by decide +kernel
theorem dX8_digest_197 : decode cX8_digest 197 = .ok (.ldc2_w 230, 3) := by decide +kernel
theorem dX8_digest_200 : decode cX8_digest 200 = .ok (.lload_n 1, 1) := by decide +kernel
theorem dX8_digest_201 : decode cX8_digest 201 = .ok (.lmul, 1) := by decide +kernel
theorem dX8_digest_202 : decode cX8_digest 202 = .ok (.iload_n 3, 1) := by decide +kernel
theorem dX8_digest_203 : decode cX8_digest 203 = .ok (.i2l, 1) := by decide +kernel
theorem dX8_digest_204 : decode cX8_digest 204 = .ok (.ladd, 1) := by decide +kernel
theorem dX8_digest_205 : decode cX8_digest 205 = .ok (.goto 4, 3) := by decide +kernel
theorem dX8_digest_208 : decode cX8_digest 208 = .ok (.lload_n 1, 1) := by decide +kernel
theorem dX8_digest_209 : decode cX8_digest 209 = .ok (.lstore_n 1, 1) := by decide +kernel
theorem dX8_digest_210 : decode cX8_digest 210 = .ok (.iinc 3 1, 3) := by decide +kernel
theorem dX8_digest_213 : decode cX8_digest 213 = .ok (.goto (-31), 3) := by decide +kernel
theorem dX8_digest_216 : decode cX8_digest 216 = .ok (.lload_n 1, 1) := by decide +kernel
theorem dX8_digest_217 : decode cX8_digest 217 = .ok (.lreturn, 1) := by decide +kernel
