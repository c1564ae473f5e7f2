theorem dX5_keep_32 : decode cX5_keep 32 = .ok (.getfield 30, 3) := by decide +kernel
theorem dX5_keep_35 : decode cX5_keep 35 = .ok (.iconst 1, 1) := by decide +kernel
theorem dX5_keep_36 : decode cX5_keep 36 = .ok (.iadd, 1) := by decide +kernel
theorem dX5_keep_37 : decode cX5_keep 37 = .ok (.iconst 4, 1) := by decide +kernel
theorem dX5_keep_38 : decode cX5_keep 38 = .ok (.invokestatic 33, 3) := by decide +kernel
theorem dX5_keep_41 : decode cX5_keep 41 = .ok (.putfield 30, 3) := by decide +kernel
theorem dX5_keep_44 : decode cX5_keep 44 = .ok (.return_, 1) := by decide +kernel
theorem dX5_slotAt_0 : decode cX5_slotAt 0 = .ok (.iload_n 1, 1) := by decide +kernel
theorem dX5_slotAt_1 : decode cX5_slotAt 1 = .ok (.ifCond .lt 21, 3) := by decide +kernel
theorem dX5_slotAt_4 : decode cX5_slotAt 4 = .ok (.iload_n 1, 1) := by decide +kernel
theorem dX5_slotAt_5 : decode cX5_slotAt 5 = .ok (.aload_n 0, 1) := by decide +kernel
theorem dX5_slotAt_6 : decode cX5_slotAt 6 = .ok (.getfield 11, 3) := by decide +kernel
theorem dX5_slotAt_9 : decode cX5_slotAt 9 = .ok (.arraylength, 1) := by decide +kernel
theorem dX5_slotAt_10 : decode cX5_slotAt 10 = .ok (.if_icmp .ge 12, 3) := by decide +kernel
theorem dX5_slotAt_13 : decode cX5_slotAt 13 = .ok (.aload_n 0, 1) := by decide +kernel
theorem dX5_slotAt_14 : decode cX5_slotAt 14 = .ok (.getfield 11, 3) := by decide +kernel
theorem dX5_slotAt_17 : decode cX5_slotAt 17 = .ok (.iload_n 1, 1) := by decide +kernel
theorem dX5_slotAt_18 : decode cX5_slotAt 18 = .ok (.aaload, 1) := by decide +kernel
theorem dX5_slotAt_19 : decode cX5_slotAt 19 = .ok (.goto 4, 3) := by decide +kernel
theorem dX5_slotAt_22 : decode cX5_slotAt 22 = .ok (.aconst_null, 1) := by decide +kernel
theorem dX5_slotAt_23 : decode cX5_slotAt 23 = .ok (.areturn, 1) := by decide +kernel
set_option maxRecDepth 20000 in
theorem ggX6_init_X4_init : GoodIn wsX6_init wsX4_init := goodIn_r _ [14, 15, 2, 3, 16, 17, 18] (by decide +kernel) (by decide +kernel)
set_option maxRecDepth 20000 in
theorem gX6_init_X4_init : GoodIn wsX6_init (wsX4_init) := ggX6_init_X4_init
theorem dX6_init_0 : decode cX6_init 0 = .ok (.aload_n 0, 1) := by decide +kernel
theorem dX6_init_1 : decode cX6_init 1 = .ok (.invokespecial 3, 3) := by decide +kernel
theorem dX6_init_4 : decode cX6_init 4 = .ok (.aload_n 0, 1) := by decide +kernel
theorem dX6_init_5 : decode cX6_init 5 = .ok (.new 9, 3) := by decide +kernel
theorem dX6_init_8 : decode cX6_init 8 = .ok (.dup, 1) := by decide +kernel
theorem dX6_init_9 : decode cX6_init 9 = .ok (.bipush 8, 2) := by decide +kernel
theorem dX6_init_11 : decode cX6_init 11 = .ok (.invokespecial 11, 3) := by decide +kernel
theorem dX6_init_14 : decode cX6_init 14 = .ok (.putfield 14, 3) := by decide +kernel
theorem dX6_init_17 : decode cX6_init 17 = .ok (.aload_n 0, 1) := by decide +kernel
theorem dX6_init_18 : decode cX6_init 18 = .ok (.new 9, 3) := by decide +kernel
theorem dX6_init_21 : decode cX6_init 21 = .ok (.dup, 1) := by decide +kernel
theorem dX6_init_22 : decode cX6_init 22 = .ok (.bipush 8, 2) := by decide +kernel
theorem dX6_init_24 : decode cX6_init 24 = .ok (.invokespecial 11, 3) := by decide +kernel
theorem dX6_init_27 : decode cX6_init 27 = .ok (.putfield 20, 3) := by decide +kernel
theorem dX6_init_30 : decode cX6_init 30 = .ok (.aload_n 0, 1) := by decide +kernel
theorem dX6_init_31 : decode cX6_init 31 = .ok (.iconst 1, 1) := by decide +kernel
theorem dX6_init_32 : decode cX6_init 32 = .ok (.putfield 23, 3) := by decide +kernel
theorem dX6_init_35 : decode cX6_init 35 = .ok (.aload_n 0, 1) := by decide +kernel
theorem dX6_init_36 : decode cX6_init 36 = .ok (.new 9, 3) := by decide +kernel
theorem dX6_init_39 : decode cX6_init 39 = .ok (.dup, 1) := by decide +kernel
theorem dX6_init_40 : decode cX6_init 40 = .ok (.iconst 4, 1) := by decide +kernel
theorem dX6_init_41 : decode cX6_init 41 = .ok (.invokespecial 11, 3) := by decide +kernel
theorem dX6_init_44 : decode cX6_init 44 = .ok (.putfield 27, 3) := by decide +kernel
theorem dX6_init_47 : decode cX6_init 47 = .ok (.aload_n 0, 1) := by decide +kernel
theorem dX6_init_48 : decode cX6_init 48 = .ok (.new 9, 3) := by decide +kernel
theorem dX6_init_51 : decode cX6_init 51 = .ok (.dup, 1) := by decide +kernel
theorem dX6_init_52 : decode cX6_init 52 = .ok (.iconst 4, 1) := by decide +kernel
theorem dX6_init_53 : decode cX6_init 53 = .ok (.invokespecial 11, 3) := by decide +kernel
theorem dX6_init_56 : decode cX6_init 56 = .ok (.putfield 30, 3) := by decide +kernel
theorem dX6_init_59 : decode cX6_init 59 = .ok (.return_, 1) := by decide +kernel
set_option maxRecDepth 20000 in
theorem ggX6_copyFrom_X4_copyFrom : GoodIn wsX6_copyFrom wsX4_copyFrom := goodIn_r _ [12, 13, 14, 15, 16, 11, 17, 25] (by decide +kernel) (by decide +kernel)
set_option maxRecDepth 20000 in
theorem gX6_copyFrom_X4_copyFrom : GoodIn wsX6_copyFrom (wsV RX6 36 RX4 yX4_copyFrom wsX4_copyFrom) := goodIn_app (goodIn_of _ (by decide +kernel)) ggX6_copyFrom_X4_copyFrom
theorem dX6_copyFrom_0 : decode cX6_copyFrom 0 = .ok (.aload_n 0, 1) := by decide +kernel
theorem dX6_copyFrom_1 : decode cX6_copyFrom 1 = .ok (.aload_n 1, 1) := by decide +kernel
theorem dX6_copyFrom_2 : decode cX6_copyFrom 2 = .ok (.getfield 33, 3) := by decide +kernel
theorem dX6_copyFrom_5 : decode cX6_copyFrom 5 = .ok (.putfield 33, 3) := by decide +kernel
theorem dX6_copyFrom_8 : decode cX6_copyFrom 8 = .ok (.aload_n 0, 1) := by decide +kernel
theorem dX6_copyFrom_9 : decode cX6_copyFrom 9 = .ok (.getfield 14, 3) := by decide +kernel
theorem dX6_copyFrom_12 : decode cX6_copyFrom 12 = .ok (.aload_n 1, 1) := by decide +kernel
theorem dX6_copyFrom_13 : decode cX6_copyFrom 13 = .ok (.getfield 14, 3) := by decide +kernel
theorem dX6_copyFrom_16 : decode cX6_copyFrom 16 = .ok (.invokevirtual 36, 3) := by decide +kernel
theorem dX6_copyFrom_19 : decode cX6_copyFrom 19 = .ok (.aload_n 0, 1) := by decide +kernel
theorem dX6_copyFrom_20 : decode cX6_copyFrom 20 = .ok (.getfield 20, 3) := by decide +kernel
theorem dX6_copyFrom_23 : decode cX6_copyFrom 23 = .ok (.aload_n 1, 1) := by decide +kernel
theorem dX6_copyFrom_24 : decode cX6_copyFrom 24 = .ok (.getfield 20, 3) := by decide +kernel
theorem dX6_copyFrom_27 : decode cX6_copyFrom 27 = .ok (.invokevirtual 36, 3) := by decide +kernel
theorem dX6_copyFrom_30 : decode cX6_copyFrom 30 = .ok (.aload_n 0, 1) := by decide +kernel
theorem dX6_copyFrom_31 : decode cX6_copyFrom 31 = .ok (.aload_n 1, 1) := by decide +kernel
theorem dX6_copyFrom_32 : decode cX6_copyFrom 32 = .ok (.getfield 23, 3) := by decide +kernel
theorem dX6_copyFrom_35 : decode cX6_copyFrom 35 = .ok (.putfield 23, 3) := by decide +kernel
theorem dX6_copyFrom_38 : decode cX6_copyFrom 38 = .ok (.aload_n 0, 1) := by decide +kernel
theorem dX6_copyFrom_39 : decode cX6_copyFrom 39 = .ok (.aload_n 1, 1) := by decide +kernel
theorem dX6_copyFrom_40 : decode cX6_copyFrom 40 = .ok (.getfield 40, 3) := by decide +kernel
theorem dX6_copyFrom_43 : decode cX6_copyFrom 43 = .ok (.putfield 40, 3) := by decide +kernel
theorem dX6_copyFrom_46 : decode cX6_copyFrom 46 = .ok (.aload_n 0, 1) := by decide +kernel
theorem dX6_copyFrom_47 : decode cX6_copyFrom 47 = .ok (.getfield 27, 3) := by decide +kernel
theorem dX6_copyFrom_50 : decode cX6_copyFrom 50 = .ok (.aload_n 1, 1) := by decide +kernel
theorem dX6_copyFrom_51 : decode cX6_copyFrom 51 = .ok (.getfield 27, 3) := by decide +kernel
theorem dX6_copyFrom_54 : decode cX6_copyFrom 54 = .ok (.invokevirtual 36, 3) := by decide +kernel
theorem dX6_copyFrom_57 : decode cX6_copyFrom 57 = .ok (.aload_n 0, 1) := by decide +kernel
theorem dX6_copyFrom_58 : decode cX6_copyFrom 58 = .ok (.getfield 30, 3) := by decide +kernel
theorem dX6_copyFrom_61 : decode cX6_copyFrom 61 = .ok (.aload_n 1, 1) := by decide +kernel
theorem dX6_copyFrom_62 : decode cX6_copyFrom 62 = .ok (.getfield 30, 3) := by decide +kernel
theorem dX6_copyFrom_65 : decode cX6_copyFrom 65 = .ok (.invokevirtual 36, 3) := by decide +kernel
theorem dX6_copyFrom_68 : decode cX6_copyFrom 68 = .ok (.return_, 1) := by decide +kernel
set_option maxRecDepth 20000 in
theorem ggX6_faultOf_Jx29ce0_ordinal_8abf5 : GoodIn wsX6_faultOf wsJx29ce0_ordinal_8abf5 := goodIn_r _ [9, 10] (by decide +kernel) (by decide +kernel)
set_option maxRecDepth 20000 in
theorem gX6_faultOf_Jx29ce0_ordinal_8abf5_u49X1 : GoodIn wsX6_faultOf (va_wsU RX6 49 RX1 "java/lang/Enum" ⟨"PivotChamber$Command", "ordinal", "()I"⟩ yJx29ce0_ordinal_8abf5 wsJx29ce0_ordinal_8abf5) := goodIn_app (goodIn_of _ (by decide +kernel)) ggX6_faultOf_Jx29ce0_ordinal_8abf5
set_option maxRecDepth 20000 in
theorem ggX6_faultOf_X7_faultOfRange : GoodIn wsX6_faultOf wsX7_faultOfRange := goodIn_r _ [13] (by decide +kernel) (by decide +kernel)
set_option maxRecDepth 20000 in
theorem gX6_faultOf_X7_faultOfRange_n55 : GoodIn wsX6_faultOf (wsX7_faultOfRange) := ggX6_faultOf_X7_faultOfRange
set_option maxRecDepth 20000 in
theorem ggX6_faultOf_X6_worse : GoodIn wsX6_faultOf wsX6_worse := goodIn_r _ [17] (by decide +kernel) (by decide +kernel)
set_option maxRecDepth 20000 in
theorem gX6_faultOf_X6_worse : GoodIn wsX6_faultOf (va_wsS RX6 59 yX6_worse wsX6_worse) := goodIn_app (goodIn_of _ (by decide +kernel)) ggX6_faultOf_X6_worse
set_option maxRecDepth 20000 in
theorem ggX6_faultOf_X6_faultOfMember : GoodIn wsX6_faultOf wsX6_faultOfMember := goodIn_r _ [21, 22, 23, 24, 16, 25, 2, 57, 58, 59, 60, 61, 62, 63] (by decide +kernel) (by decide +kernel)
set_option maxRecDepth 20000 in
theorem gX6_faultOf_X6_faultOfMember : GoodIn wsX6_faultOf (wsV RX6 63 RX6 yX6_faultOfMember wsX6_faultOfMember) := goodIn_app (goodIn_of _ (by decide +kernel)) ggX6_faultOf_X6_faultOfMember
set_option maxRecDepth 20000 in
theorem ggX6_faultOf_X6_faultOfTwo : GoodIn wsX6_faultOf wsX6_faultOfTwo := goodIn_r _ [29, 22, 23, 24, 16, 25, 2, 57, 58, 59, 60, 61, 62, 63] (by decide +kernel) (by decide +kernel)
set_option maxRecDepth 20000 in
theorem gX6_faultOf_X6_faultOfTwo : GoodIn wsX6_faultOf (wsV RX6 67 RX6 yX6_faultOfTwo wsX6_faultOfTwo) := goodIn_app (goodIn_of _ (by decide +kernel)) ggX6_faultOf_X6_faultOfTwo
set_option maxRecDepth 20000 in
theorem ggX6_faultOf_X6_mayFollow : GoodIn wsX6_faultOf wsX6_mayFollow := goodIn_r _ [33, 34, 35, 36, 16, 37, 38, 22, 23, 24, 25, 2, 39, 40, 41, 42, 43, 44, 45, 46, 47, 48, 57, 58, 59, 60, 61, 62, 63, 64] (by decide +kernel) (by decide +kernel)
set_option maxRecDepth 20000 in
theorem gX6_faultOf_X6_mayFollow : GoodIn wsX6_faultOf (wsV RX6 70 RX6 yX6_mayFollow wsX6_mayFollow) := goodIn_app (goodIn_of _ (by decide +kernel)) ggX6_faultOf_X6_mayFollow
set_option maxRecDepth 20000 in
theorem ggX6_faultOf_X6_isPlayer : GoodIn wsX6_faultOf wsX6_isPlayer := goodIn_r _ [37, 38, 22, 23, 24, 16, 25, 2, 39, 40, 41, 42, 43, 44, 57, 58, 59, 60, 61, 62, 63, 64] (by decide +kernel) (by decide +kernel)
set_option maxRecDepth 20000 in
theorem gX6_faultOf_X6_isPlayer : GoodIn wsX6_faultOf (wsV RX6 74 RX6 yX6_isPlayer wsX6_isPlayer) := goodIn_app (goodIn_of _ (by decide +kernel)) ggX6_faultOf_X6_isPlayer
set_option maxRecDepth 20000 in
theorem ggX6_faultOf_X6_faultOfNewRule : GoodIn wsX6_faultOf wsX6_faultOfNewRule := goodIn_r _ [52, 11, 12, 13] (by decide +kernel) (by decide +kernel)
set_option maxRecDepth 20000 in
theorem gX6_faultOf_X6_faultOfNewRule : GoodIn wsX6_faultOf (wsV RX6 78 RX6 yX6_faultOfNewRule wsX6_faultOfNewRule) := goodIn_app (goodIn_of _ (by decide +kernel)) ggX6_faultOf_X6_faultOfNewRule
set_option maxRecDepth 20000 in
theorem ggX6_faultOf_X6_faultOfRule : GoodIn wsX6_faultOf wsX6_faultOfRule := goodIn_r _ [56, 3, 57, 58, 59, 60, 61, 62, 63] (by decide +kernel) (by decide +kernel)
set_option maxRecDepth 20000 in
theorem gX6_faultOf_X6_faultOfRule : GoodIn wsX6_faultOf (wsV RX6 81 RX6 yX6_faultOfRule wsX6_faultOfRule) := goodIn_app (goodIn_of _ (by decide +kernel)) ggX6_faultOf_X6_faultOfRule
theorem dX6_faultOf_0 : decode cX6_faultOf 0 = .ok (.aload_n 1, 1) := by decide +kernel
theorem dX6_faultOf_1 : decode cX6_faultOf 1 = .ok (.ifnonnull 5, 3) := by decide +kernel
theorem dX6_faultOf_4 : decode cX6_faultOf 4 = .ok (.iconst 2, 1) := by decide +kernel
theorem dX6_faultOf_5 : decode cX6_faultOf 5 = .ok (.ireturn, 1) := by decide +kernel
theorem dX6_faultOf_6 : decode cX6_faultOf 6 = .ok (.getstatic 43, 3) := by decide +kernel
theorem dX6_faultOf_9 : decode cX6_faultOf 9 = .ok (.aload_n 1, 1) := by decide +kernel
theorem dX6_faultOf_10 : decode cX6_faultOf 10 = .ok (.invokevirtual 49, 3) := by decide +kernel
theorem dX6_faultOf_13 : decode cX6_faultOf 13 = .ok (.iaload, 1) := by decide +kernel
theorem dX6_faultOf_14 : decode cX6_faultOf 14 = .ok (.tableswitch 167 1 7 #[42, 67, 83, 92, 116, 138, 161], 42) := by decide +kernel
theorem dX6_faultOf_56 : decode cX6_faultOf 56 = .ok (.iload_n 2, 1) := by decide +kernel
theorem dX6_faultOf_57 : decode cX6_faultOf 57 = .ok (.iconst 0, 1) := by decide +kernel
theorem dX6_faultOf_58 : decode cX6_faultOf 58 = .ok (.bipush 50, 2) := by decide +kernel
theorem dX6_faultOf_60 : decode cX6_faultOf 60 = .ok (.invokestatic 55, 3) := by decide +kernel
theorem dX6_faultOf_63 : decode cX6_faultOf 63 = .ok (.aload_n 0, 1) := by decide +kernel
theorem dX6_faultOf_64 : decode cX6_faultOf 64 = .ok (.getfield 33, 3) := by decide +kernel
theorem dX6_faultOf_67 : decode cX6_faultOf 67 = .ok (.bipush 8, 2) := by decide +kernel
theorem dX6_faultOf_69 : decode cX6_faultOf 69 = .ok (.if_icmp .lt 7, 3) := by decide +kernel
theorem dX6_faultOf_72 : decode cX6_faultOf 72 = .ok (.iconst 3, 1) := by decide +kernel
theorem dX6_faultOf_73 : decode cX6_faultOf 73 = .ok (.goto 4, 3) := by decide +kernel
theorem dX6_faultOf_76 : decode cX6_faultOf 76 = .ok (.iconst 0, 1) := by decide +kernel
theorem dX6_faultOf_77 : decode cX6_faultOf 77 = .ok (.invokestatic 59, 3) := by decide +kernel
theorem dX6_faultOf_80 : decode cX6_faultOf 80 = .ok (.ireturn, 1) := by decide +kernel
theorem dX6_faultOf_81 : decode cX6_faultOf 81 = .ok (.aload_n 0, 1) := by decide +kernel
theorem dX6_faultOf_82 : decode cX6_faultOf 82 = .ok (.iload_n 2, 1) := by decide +kernel
theorem dX6_faultOf_83 : decode cX6_faultOf 83 = .ok (.invokevirtual 63, 3) := by decide +kernel
theorem dX6_faultOf_86 : decode cX6_faultOf 86 = .ok (.iload_n 3, 1) := by decide +kernel
theorem dX6_faultOf_87 : decode cX6_faultOf 87 = .ok (.iconst 0, 1) := by decide +kernel
theorem dX6_faultOf_88 : decode cX6_faultOf 88 = .ok (.bipush 50, 2) := by decide +kernel
theorem dX6_faultOf_90 : decode cX6_faultOf 90 = .ok (.invokestatic 55, 3) := by decide +kernel
theorem dX6_faultOf_93 : decode cX6_faultOf 93 = .ok (.invokestatic 59, 3) := by decide +kernel
theorem dX6_faultOf_96 : decode cX6_faultOf 96 = .ok (.ireturn, 1) := by decide +kernel
theorem dX6_faultOf_97 : decode cX6_faultOf 97 = .ok (.iload_n 2, 1) := by decide +kernel
theorem dX6_faultOf_98 : decode cX6_faultOf 98 = .ok (.iconst 1, 1) := by decide +kernel
theorem dX6_faultOf_99 : decode cX6_faultOf 99 = .ok (.sipush 400, 3) := by decide +kernel
theorem dX6_faultOf_102 : decode cX6_faultOf 102 = .ok (.invokestatic 55, 3) := by decide +kernel
theorem dX6_faultOf_105 : decode cX6_faultOf 105 = .ok (.ireturn, 1) := by decide +kernel
theorem dX6_faultOf_106 : decode cX6_faultOf 106 = .ok (.aload_n 0, 1) := by decide +kernel
theorem dX6_faultOf_107 : decode cX6_faultOf 107 = .ok (.iload_n 2, 1) := by decide +kernel
theorem dX6_faultOf_108 : decode cX6_faultOf 108 = .ok (.iload_n 3, 1) := by decide +kernel
theorem dX6_faultOf_109 : decode cX6_faultOf 109 = .ok (.invokevirtual 67, 3) := by decide +kernel
theorem dX6_faultOf_112 : decode cX6_faultOf 112 = .ok (.aload_n 0, 1) := by decide +kernel
theorem dX6_faultOf_113 : decode cX6_faultOf 113 = .ok (.iload_n 2, 1) := by decide +kernel
theorem dX6_faultOf_114 : decode cX6_faultOf 114 = .ok (.iload_n 3, 1) := by decide +kernel
theorem dX6_faultOf_115 : decode cX6_faultOf 115 = .ok (.invokevirtual 70, 3) := by decide +kernel
theorem dX6_faultOf_118 : decode cX6_faultOf 118 = .ok (.ifCond .eq 7, 3) := by decide +kernel
theorem dX6_faultOf_121 : decode cX6_faultOf 121 = .ok (.iconst 0, 1) := by decide +kernel
theorem dX6_faultOf_122 : decode cX6_faultOf 122 = .ok (.goto 4, 3) := by decide +kernel
theorem dX6_faultOf_125 : decode cX6_faultOf 125 = .ok (.iconst 3, 1) := by decide +kernel
theorem dX6_faultOf_126 : decode cX6_faultOf 126 = .ok (.invokestatic 59, 3) := by decide +kernel
theorem dX6_faultOf_129 : decode cX6_faultOf 129 = .ok (.ireturn, 1) := by decide +kernel
theorem dX6_faultOf_130 : decode cX6_faultOf 130 = .ok (.aload_n 0, 1) := by decide +kernel
theorem dX6_faultOf_131 : decode cX6_faultOf 131 = .ok (.iload_n 2, 1) := by decide +kernel
theorem dX6_faultOf_132 : decode cX6_faultOf 132 = .ok (.invokevirtual 63, 3) := by decide +kernel
theorem dX6_faultOf_135 : decode cX6_faultOf 135 = .ok (.aload_n 0, 1) := by decide +kernel
theorem dX6_faultOf_136 : decode cX6_faultOf 136 = .ok (.iload_n 2, 1) := by decide +kernel
theorem dX6_faultOf_137 : decode cX6_faultOf 137 = .ok (.invokevirtual 74, 3) := by decide +kernel
theorem dX6_faultOf_140 : decode cX6_faultOf 140 = .ok (.ifCond .eq 7, 3) := by decide +kernel
theorem dX6_faultOf_143 : decode cX6_faultOf 143 = .ok (.iconst 3, 1) := by decide +kernel
theorem dX6_faultOf_144 : decode cX6_faultOf 144 = .ok (.goto 4, 3) := by decide +kernel
theorem dX6_faultOf_147 : decode cX6_faultOf 147 = .ok (.iconst 0, 1) := by decide +kernel
theorem dX6_faultOf_148 : decode cX6_faultOf 148 = .ok (.invokestatic 59, 3) := by decide +kernel
theorem dX6_faultOf_151 : decode cX6_faultOf 151 = .ok (.ireturn, 1) := by decide +kernel
theorem dX6_faultOf_152 : decode cX6_faultOf 152 = .ok (.aload_n 0, 1) := by decide +kernel
theorem dX6_faultOf_153 : decode cX6_faultOf 153 = .ok (.iload_n 2, 1) := by decide +kernel
theorem dX6_faultOf_154 : decode cX6_faultOf 154 = .ok (.iload_n 3, 1) := by decide +kernel
theorem dX6_faultOf_155 : decode cX6_faultOf 155 = .ok (.invokevirtual 78, 3) := by decide +kernel
theorem dX6_faultOf_158 : decode cX6_faultOf 158 = .ok (.aload_n 0, 1) := by decide +kernel
theorem dX6_faultOf_159 : decode cX6_faultOf 159 = .ok (.getfield 40, 3) := by decide +kernel
theorem dX6_faultOf_162 : decode cX6_faultOf 162 = .ok (.iconst 4, 1) := by decide +kernel
theorem dX6_faultOf_163 : decode cX6_faultOf 163 = .ok (.if_icmp .lt 7, 3) := by decide +kernel
theorem dX6_faultOf_166 : decode cX6_faultOf 166 = .ok (.iconst 3, 1) := by decide +kernel
theorem dX6_faultOf_167 : decode cX6_faultOf 167 = .ok (.goto 4, 3) := by decide +kernel
theorem dX6_faultOf_170 : decode cX6_faultOf 170 = .ok (.iconst 0, 1) := by decide +kernel
theorem dX6_faultOf_171 : decode cX6_faultOf 171 = .ok (.invokestatic 59, 3) := by decide +kernel
theorem dX6_faultOf_174 : decode cX6_faultOf 174 = .ok (.ireturn, 1) := by decide +kernel
theorem dX6_faultOf_175 : decode cX6_faultOf 175 = .ok (.aload_n 0, 1) := by decide +kernel
theorem dX6_faultOf_176 : decode cX6_faultOf 176 = .ok (.iload_n 2, 1) := by decide +kernel
theorem dX6_faultOf_177 : decode cX6_faultOf 177 = .ok (.invokevirtual 81, 3) := by decide +kernel
theorem dX6_faultOf_180 : decode cX6_faultOf 180 = .ok (.ireturn, 1) := by decide +kernel
theorem dX6_faultOf_181 : decode cX6_faultOf 181 = .ok (.iconst 2, 1) := by decide +kernel
theorem dX6_faultOf_182 : decode cX6_faultOf 182 = .ok (.ireturn, 1) := by decide +kernel
set_option maxRecDepth 20000 in
theorem ggX6_carryOut_Jx29ce0_ordinal_8abf5 : GoodIn wsX6_carryOut wsJx29ce0_ordinal_8abf5 := goodIn_r _ [8, 9] (by decide +kernel) (by decide +kernel)
set_option maxRecDepth 20000 in
theorem gX6_carryOut_Jx29ce0_ordinal_8abf5_u49X1 : GoodIn wsX6_carryOut (va_wsU RX6 49 RX1 "java/lang/Enum" ⟨"PivotChamber$Command", "ordinal", "()I"⟩ yJx29ce0_ordinal_8abf5 wsJx29ce0_ordinal_8abf5) := goodIn_app (goodIn_of _ (by decide +kernel)) ggX6_carryOut_Jx29ce0_ordinal_8abf5
set_option maxRecDepth 20000 in
theorem ggX6_carryOut_X6_enrol : GoodIn wsX6_carryOut wsX6_enrol := goodIn_r _ [14, 15, 16, 2, 17, 18, 19, 20, 21, 22, 70, 71, 72, 73, 74, 75, 76, 77] (by decide +kernel) (by decide +kernel)
set_option maxRecDepth 20000 in
theorem gX6_carryOut_X6_enrol : GoodIn wsX6_carryOut (wsV RX6 84 RX6 yX6_enrol wsX6_enrol) := goodIn_app (goodIn_of _ (by decide +kernel)) ggX6_carryOut_X6_enrol
set_option maxRecDepth 20000 in
theorem ggX6_carryOut_X6_weigh : GoodIn wsX6_carryOut wsX6_weigh := goodIn_r _ [26, 15, 27, 28, 29, 20, 30, 22, 17, 18, 19, 21, 70, 71, 72, 73, 74, 75, 76, 77] (by decide +kernel) (by decide +kernel)
set_option maxRecDepth 20000 in
theorem gX6_carryOut_X6_weigh : GoodIn wsX6_carryOut (wsV RX6 87 RX6 yX6_weigh wsX6_weigh) := goodIn_app (goodIn_of _ (by decide +kernel)) ggX6_carryOut_X6_weigh
set_option maxRecDepth 20000 in
theorem ggX6_carryOut_X6_changeQuota : GoodIn wsX6_carryOut wsX6_changeQuota := goodIn_r _ [34, 35, 70, 71, 72, 73, 74, 75, 76] (by decide +kernel) (by decide +kernel)
set_option maxRecDepth 20000 in
theorem gX6_carryOut_X6_changeQuota : GoodIn wsX6_carryOut (wsV RX6 90 RX6 yX6_changeQuota wsX6_changeQuota) := goodIn_app (goodIn_of _ (by decide +kernel)) ggX6_carryOut_X6_changeQuota
set_option maxRecDepth 20000 in
theorem ggX6_carryOut_X4_put : GoodIn wsX6_carryOut wsX4_put := goodIn_r _ [21, 22, 77] (by decide +kernel) (by decide +kernel)
set_option maxRecDepth 20000 in
theorem gX6_carryOut_X4_put : GoodIn wsX6_carryOut (wsV RX6 93 RX4 yX4_put wsX4_put) := goodIn_app (goodIn_of _ (by decide +kernel)) ggX6_carryOut_X4_put
set_option maxRecDepth 20000 in
theorem ggX6_carryOut_X6_blocOf : GoodIn wsX6_carryOut wsX6_blocOf := goodIn_r _ [39, 16, 2, 40, 41, 42, 13, 43, 44, 45, 46, 47, 27, 28, 29, 20, 30, 22, 70, 71, 72, 73, 74, 75, 76, 77] (by decide +kernel) (by decide +kernel)
set_option maxRecDepth 20000 in
theorem gX6_carryOut_X6_blocOf : GoodIn wsX6_carryOut (wsV RX6 97 RX6 yX6_blocOf wsX6_blocOf) := goodIn_app (goodIn_of _ (by decide +kernel)) ggX6_carryOut_X6_blocOf
set_option maxRecDepth 20000 in
theorem ggX6_carryOut_X6_weightOf : GoodIn wsX6_carryOut wsX6_weightOf := goodIn_r _ [51, 16, 15, 52, 53, 54, 27, 28, 29, 20, 30, 22, 70, 71, 72, 73, 74, 75, 76, 77] (by decide +kernel) (by decide +kernel)
set_option maxRecDepth 20000 in
theorem gX6_carryOut_X6_weightOf : GoodIn wsX6_carryOut (wsV RX6 100 RX6 yX6_weightOf wsX6_weightOf) := goodIn_app (goodIn_of _ (by decide +kernel)) ggX6_carryOut_X6_weightOf
set_option maxRecDepth 20000 in
theorem ggX6_carryOut_X6_release : GoodIn wsX6_carryOut wsX6_release := goodIn_r _ [58, 2, 27, 28, 29, 20, 30, 22, 17, 18, 19, 21, 70, 71, 72, 73, 74, 75, 76, 77] (by decide +kernel) (by decide +kernel)
set_option maxRecDepth 20000 in
theorem gX6_carryOut_X6_release : GoodIn wsX6_carryOut (wsV RX6 103 RX6 yX6_release wsX6_release) := goodIn_app (goodIn_of _ (by decide +kernel)) ggX6_carryOut_X6_release
set_option maxRecDepth 20000 in
theorem ggX6_carryOut_X6_appendRule : GoodIn wsX6_carryOut wsX6_appendRule := goodIn_r _ [62, 63, 64, 65, 17, 18, 19, 20, 21, 22, 70, 71, 72, 73, 74, 75, 76, 77] (by decide +kernel) (by decide +kernel)
set_option maxRecDepth 20000 in
theorem gX6_carryOut_X6_appendRule : GoodIn wsX6_carryOut (wsV RX6 106 RX6 yX6_appendRule wsX6_appendRule) := goodIn_app (goodIn_of _ (by decide +kernel)) ggX6_carryOut_X6_appendRule
set_option maxRecDepth 20000 in
theorem ggX6_carryOut_X6_removeRule : GoodIn wsX6_carryOut wsX6_removeRule := goodIn_r _ [69, 64, 63, 65, 27, 28, 29, 20, 30, 22, 17, 18, 19, 21, 70, 71, 72, 73, 74, 75, 76, 77] (by decide +kernel) (by decide +kernel)
set_option maxRecDepth 20000 in
theorem gX6_carryOut_X6_removeRule : GoodIn wsX6_carryOut (wsV RX6 109 RX6 yX6_removeRule wsX6_removeRule) := goodIn_app (goodIn_of _ (by decide +kernel)) ggX6_carryOut_X6_removeRule
theorem dX6_carryOut_0 : decode cX6_carryOut 0 = .ok (.aload_n 1, 1) := by decide +kernel
theorem dX6_carryOut_1 : decode cX6_carryOut 1 = .ok (.ifnonnull 5, 3) := by decide +kernel
theorem dX6_carryOut_4 : decode cX6_carryOut 4 = .ok (.iconst (-1), 1) := by decide +kernel
theorem dX6_carryOut_5 : decode cX6_carryOut 5 = .ok (.ireturn, 1) := by decide +kernel
theorem dX6_carryOut_6 : decode cX6_carryOut 6 = .ok (.getstatic 43, 3) := by decide +kernel
theorem dX6_carryOut_9 : decode cX6_carryOut 9 = .ok (.aload_n 1, 1) := by decide +kernel
theorem dX6_carryOut_10 : decode cX6_carryOut 10 = .ok (.invokevirtual 49, 3) := by decide +kernel
theorem dX6_carryOut_13 : decode cX6_carryOut 13 = .ok (.iaload, 1) := by decide +kernel
theorem dX6_carryOut_14 : decode cX6_carryOut 14 = .ok (.tableswitch 99 1 7 #[42, 48, 55, 61, 80, 86, 93], 42) := by decide +kernel
theorem dX6_carryOut_56 : decode cX6_carryOut 56 = .ok (.aload_n 0, 1) := by decide +kernel
theorem dX6_carryOut_57 : decode cX6_carryOut 57 = .ok (.iload_n 2, 1) := by decide +kernel
theorem dX6_carryOut_58 : decode cX6_carryOut 58 = .ok (.invokevirtual 84, 3) := by decide +kernel
theorem dX6_carryOut_61 : decode cX6_carryOut 61 = .ok (.ireturn, 1) := by decide +kernel
theorem dX6_carryOut_62 : decode cX6_carryOut 62 = .ok (.aload_n 0, 1) := by decide +kernel
theorem dX6_carryOut_63 : decode cX6_carryOut 63 = .ok (.iload_n 2, 1) := by decide +kernel
theorem dX6_carryOut_64 : decode cX6_carryOut 64 = .ok (.iload_n 3, 1) := by decide +kernel
theorem dX6_carryOut_65 : decode cX6_carryOut 65 = .ok (.invokevirtual 87, 3) := by decide +kernel
theorem dX6_carryOut_68 : decode cX6_carryOut 68 = .ok (.ireturn, 1) := by decide +kernel
theorem dX6_carryOut_69 : decode cX6_carryOut 69 = .ok (.aload_n 0, 1) := by decide +kernel
theorem dX6_carryOut_70 : decode cX6_carryOut 70 = .ok (.iload_n 2, 1) := by decide +kernel
theorem dX6_carryOut_71 : decode cX6_carryOut 71 = .ok (.invokevirtual 90, 3) := by decide +kernel
theorem dX6_carryOut_74 : decode cX6_carryOut 74 = .ok (.ireturn, 1) := by decide +kernel
theorem dX6_carryOut_75 : decode cX6_carryOut 75 = .ok (.aload_n 0, 1) := by decide +kernel
theorem dX6_carryOut_76 : decode cX6_carryOut 76 = .ok (.getfield 20, 3) := by decide +kernel
theorem dX6_carryOut_79 : decode cX6_carryOut 79 = .ok (.iload_n 2, 1) := by decide +kernel
theorem dX6_carryOut_80 : decode cX6_carryOut 80 = .ok (.iload_n 3, 1) := by decide +kernel
theorem dX6_carryOut_81 : decode cX6_carryOut 81 = .ok (.invokevirtual 93, 3) := by decide +kernel
theorem dX6_carryOut_84 : decode cX6_carryOut 84 = .ok (.aload_n 0, 1) := by decide +kernel
theorem dX6_carryOut_85 : decode cX6_carryOut 85 = .ok (.aload_n 0, 1) := by decide +kernel
theorem dX6_carryOut_86 : decode cX6_carryOut 86 = .ok (.iload_n 3, 1) := by decide +kernel
theorem dX6_carryOut_87 : decode cX6_carryOut 87 = .ok (.invokevirtual 97, 3) := by decide +kernel
theorem dX6_carryOut_90 : decode cX6_carryOut 90 = .ok (.invokevirtual 100, 3) := by decide +kernel
theorem dX6_carryOut_93 : decode cX6_carryOut 93 = .ok (.ireturn, 1) := by decide +kernel
theorem dX6_carryOut_94 : decode cX6_carryOut 94 = .ok (.aload_n 0, 1) := by decide +kernel
theorem dX6_carryOut_95 : decode cX6_carryOut 95 = .ok (.iload_n 2, 1) := by decide +kernel
theorem dX6_carryOut_96 : decode cX6_carryOut 96 = .ok (.invokevirtual 103, 3) := by decide +kernel
theorem dX6_carryOut_99 : decode cX6_carryOut 99 = .ok (.ireturn, 1) := by decide +kernel
theorem dX6_carryOut_100 : decode cX6_carryOut 100 = .ok (.aload_n 0, 1) := by decide +kernel
theorem dX6_carryOut_101 : decode cX6_carryOut 101 = .ok (.iload_n 2, 1) := by decide +kernel
theorem dX6_carryOut_102 : decode cX6_carryOut 102 = .ok (.iload_n 3, 1) := by decide +kernel
theorem dX6_carryOut_103 : decode cX6_carryOut 103 = .ok (.invokevirtual 106, 3) := by decide +kernel
theorem dX6_carryOut_106 : decode cX6_carryOut 106 = .ok (.ireturn, 1) := by decide +kernel
theorem dX6_carryOut_107 : decode cX6_carryOut 107 = .ok (.aload_n 0, 1) := by decide +kernel
theorem dX6_carryOut_108 : decode cX6_carryOut 108 = .ok (.iload_n 2, 1) := by decide +kernel
theorem dX6_carryOut_109 : decode cX6_carryOut 109 = .ok (.invokevirtual 109, 3) := by decide +kernel
theorem dX6_carryOut_112 : decode cX6_carryOut 112 = .ok (.ireturn, 1) := by decide +kernel
theorem dX6_carryOut_113 : decode cX6_carryOut 113 = .ok (.iconst (-1), 1) := by decide +kernel
theorem dX6_carryOut_114 : decode cX6_carryOut 114 = .ok (.ireturn, 1) := by decide +kernel
theorem dX6_worse_0 : decode cX6_worse 0 = .ok (.iload_n 0, 1) := by decide +kernel
theorem dX6_worse_1 : decode cX6_worse 1 = .ok (.ifCond .eq 7, 3) := by decide +kernel
theorem dX6_worse_4 : decode cX6_worse 4 = .ok (.iload_n 0, 1) := by decide +kernel
theorem dX6_worse_5 : decode cX6_worse 5 = .ok (.goto 4, 3) := by decide +kernel
theorem dX6_worse_8 : decode cX6_worse 8 = .ok (.iload_n 1, 1) := by decide +kernel
theorem dX6_worse_9 : decode cX6_worse 9 = .ok (.ireturn, 1) := by decide +kernel
set_option maxRecDepth 20000 in
theorem ggX6_faultOfMember_X6_hasMember : GoodIn wsX6_faultOfMember wsX6_hasMember := goodIn_r _ [5, 6, 7, 8, 9, 10, 11, 12, 13] (by decide +kernel) (by decide +kernel)
set_option maxRecDepth 20000 in
theorem gX6_faultOfMember_X6_hasMember : GoodIn wsX6_faultOfMember (wsV RX6 112 RX6 yX6_hasMember wsX6_hasMember) := goodIn_app (goodIn_of _ (by decide +kernel)) ggX6_faultOfMember_X6_hasMember
theorem dX6_faultOfMember_0 : decode cX6_faultOfMember 0 = .ok (.aload_n 0, 1) := by decide +kernel
theorem dX6_faultOfMember_1 : decode cX6_faultOfMember 1 = .ok (.iload_n 1, 1) := by decide +kernel
theorem dX6_faultOfMember_2 : decode cX6_faultOfMember 2 = .ok (.invokevirtual 112, 3) := by decide +kernel
theorem dX6_faultOfMember_5 : decode cX6_faultOfMember 5 = .ok (.ifCond .eq 7, 3) := by decide +kernel
theorem dX6_faultOfMember_8 : decode cX6_faultOfMember 8 = .ok (.iconst 0, 1) := by decide +kernel
theorem dX6_faultOfMember_9 : decode cX6_faultOfMember 9 = .ok (.goto 4, 3) := by decide +kernel
theorem dX6_faultOfMember_12 : decode cX6_faultOfMember 12 = .ok (.iconst 1, 1) := by decide +kernel
theorem dX6_faultOfMember_13 : decode cX6_faultOfMember 13 = .ok (.ireturn, 1) := by decide +kernel
theorem dX6_faultOfRule_0 : decode cX6_faultOfRule 0 = .ok (.iload_n 1, 1) := by decide +kernel
theorem dX6_faultOfRule_1 : decode cX6_faultOfRule 1 = .ok (.ifCond .lt 11, 3) := by decide +kernel
theorem dX6_faultOfRule_4 : decode cX6_faultOfRule 4 = .ok (.iload_n 1, 1) := by decide +kernel
theorem dX6_faultOfRule_5 : decode cX6_faultOfRule 5 = .ok (.aload_n 0, 1) := by decide +kernel
theorem dX6_faultOfRule_6 : decode cX6_faultOfRule 6 = .ok (.getfield 40, 3) := by decide +kernel
theorem dX6_faultOfRule_9 : decode cX6_faultOfRule 9 = .ok (.if_icmp .lt 7, 3) := by decide +kernel
theorem dX6_faultOfRule_12 : decode cX6_faultOfRule 12 = .ok (.iconst 1, 1) := by decide +kernel
theorem dX6_faultOfRule_13 : decode cX6_faultOfRule 13 = .ok (.goto 4, 3) := by decide +kernel
theorem dX6_faultOfRule_16 : decode cX6_faultOfRule 16 = .ok (.iconst 0, 1) := by decide +kernel
theorem dX6_faultOfRule_17 : decode cX6_faultOfRule 17 = .ok (.ireturn, 1) := by decide +kernel
set_option maxRecDepth 20000 in
theorem ggX6_faultOfTwo_X6_hasMember : GoodIn wsX6_faultOfTwo wsX6_hasMember := goodIn_r _ [5, 6, 7, 8, 9, 10, 11, 12, 13] (by decide +kernel) (by decide +kernel)
set_option maxRecDepth 20000 in
theorem gX6_faultOfTwo_X6_hasMember : GoodIn wsX6_faultOfTwo (wsV RX6 112 RX6 yX6_hasMember wsX6_hasMember) := goodIn_app (goodIn_of _ (by decide +kernel)) ggX6_faultOfTwo_X6_hasMember
theorem dX6_faultOfTwo_0 : decode cX6_faultOfTwo 0 = .ok (.aload_n 0, 1) := by decide +kernel
theorem dX6_faultOfTwo_1 : decode cX6_faultOfTwo 1 = .ok (.iload_n 1, 1) := by decide +kernel
theorem dX6_faultOfTwo_2 : decode cX6_faultOfTwo 2 = .ok (.invokevirtual 112, 3) := by decide +kernel
theorem dX6_faultOfTwo_5 : decode cX6_faultOfTwo 5 = .ok (.ifCond .eq 11, 3) := by decide +kernel
theorem dX6_faultOfTwo_8 : decode cX6_faultOfTwo 8 = .ok (.aload_n 0, 1) := by decide +kernel
theorem dX6_faultOfTwo_9 : decode cX6_faultOfTwo 9 = .ok (.iload_n 2, 1) := by decide +kernel
theorem dX6_faultOfTwo_10 : decode cX6_faultOfTwo 10 = .ok (.invokevirtual 112, 3) := by decide +kernel
theorem dX6_faultOfTwo_13 : decode cX6_faultOfTwo 13 = .ok (.ifCond .ne 5, 3) := by decide +kernel
theorem dX6_faultOfTwo_16 : decode cX6_faultOfTwo 16 = .ok (.iconst 1, 1) := by decide +kernel
theorem dX6_faultOfTwo_17 : decode cX6_faultOfTwo 17 = .ok (.ireturn, 1) := by decide +kernel
theorem dX6_faultOfTwo_18 : decode cX6_faultOfTwo 18 = .ok (.iload_n 1, 1) := by decide +kernel
theorem dX6_faultOfTwo_19 : decode cX6_faultOfTwo 19 = .ok (.iload_n 2, 1) := by decide +kernel
theorem dX6_faultOfTwo_20 : decode cX6_faultOfTwo 20 = .ok (.if_icmp .ne 7, 3) := by decide +kernel
theorem dX6_faultOfTwo_23 : decode cX6_faultOfTwo 23 = .ok (.iconst 2, 1) := by decide +kernel
theorem dX6_faultOfTwo_24 : decode cX6_faultOfTwo 24 = .ok (.goto 4, 3) := by decide +kernel
theorem dX6_faultOfTwo_27 : decode cX6_faultOfTwo 27 = .ok (.iconst 0, 1) := by decide +kernel
theorem dX6_faultOfTwo_28 : decode cX6_faultOfTwo 28 = .ok (.ireturn, 1) := by decide +kernel
set_option maxRecDepth 20000 in
theorem ggX6_faultOfSet_X6_everybody : GoodIn wsX6_faultOfSet wsX6_everybody := goodIn_r _ [5, 6, 10, 11, 12, 13, 14, 15, 16] (by decide +kernel) (by decide +kernel)
set_option maxRecDepth 20000 in
theorem gX6_faultOfSet_X6_everybody : GoodIn wsX6_faultOfSet (wsV RX6 115 RX6 yX6_everybody wsX6_everybody) := goodIn_app (goodIn_of _ (by decide +kernel)) ggX6_faultOfSet_X6_everybody
set_option maxRecDepth 20000 in
theorem ggX6_faultOfSet_X7_faultOfRange : GoodIn wsX6_faultOfSet wsX7_faultOfRange := goodIn_r _ [9] (by decide +kernel) (by decide +kernel)
set_option maxRecDepth 20000 in
theorem gX6_faultOfSet_X7_faultOfRange_n55 : GoodIn wsX6_faultOfSet (wsX7_faultOfRange) := ggX6_faultOfSet_X7_faultOfRange
theorem dX6_faultOfSet_0 : decode cX6_faultOfSet 0 = .ok (.iload_n 1, 1) := by decide +kernel
theorem dX6_faultOfSet_1 : decode cX6_faultOfSet 1 = .ok (.iconst 0, 1) := by decide +kernel
theorem dX6_faultOfSet_2 : decode cX6_faultOfSet 2 = .ok (.aload_n 0, 1) := by decide +kernel
theorem dX6_faultOfSet_3 : decode cX6_faultOfSet 3 = .ok (.invokevirtual 115, 3) := by decide +kernel
theorem dX6_faultOfSet_6 : decode cX6_faultOfSet 6 = .ok (.invokestatic 55, 3) := by decide +kernel
theorem dX6_faultOfSet_9 : decode cX6_faultOfSet 9 = .ok (.ireturn, 1) := by decide +kernel
set_option maxRecDepth 20000 in
theorem ggX6_faultOfNewRule_X7_faultOfRange : GoodIn wsX6_faultOfNewRule wsX7_faultOfRange := goodIn_r _ [3] (by decide +kernel) (by decide +kernel)
set_option maxRecDepth 20000 in
theorem gX6_faultOfNewRule_X7_faultOfRange_n55 : GoodIn wsX6_faultOfNewRule (wsX7_faultOfRange) := ggX6_faultOfNewRule_X7_faultOfRange
theorem dX6_faultOfNewRule_0 : decode cX6_faultOfNewRule 0 = .ok (.iload_n 1, 1) := by decide +kernel
theorem dX6_faultOfNewRule_1 : decode cX6_faultOfNewRule 1 = .ok (.tableswitch 52 0 2 #[27, 35, 43], 27) := by decide +kernel
theorem dX6_faultOfNewRule_28 : decode cX6_faultOfNewRule 28 = .ok (.iload_n 2, 1) := by decide +kernel
theorem dX6_faultOfNewRule_29 : decode cX6_faultOfNewRule 29 = .ok (.iconst 1, 1) := by decide +kernel
theorem dX6_faultOfNewRule_30 : decode cX6_faultOfNewRule 30 = .ok (.bipush 8, 2) := by decide +kernel
theorem dX6_faultOfNewRule_32 : decode cX6_faultOfNewRule 32 = .ok (.invokestatic 55, 3) := by decide +kernel
theorem dX6_faultOfNewRule_35 : decode cX6_faultOfNewRule 35 = .ok (.ireturn, 1) := by decide +kernel
theorem dX6_faultOfNewRule_36 : decode cX6_faultOfNewRule 36 = .ok (.iload_n 2, 1) := by decide +kernel
theorem dX6_faultOfNewRule_37 : decode cX6_faultOfNewRule 37 = .ok (.iconst 0, 1) := by decide +kernel
theorem dX6_faultOfNewRule_38 : decode cX6_faultOfNewRule 38 = .ok (.bipush 7, 2) := by decide +kernel
theorem dX6_faultOfNewRule_40 : decode cX6_faultOfNewRule 40 = .ok (.invokestatic 55, 3) := by decide +kernel
theorem dX6_faultOfNewRule_43 : decode cX6_faultOfNewRule 43 = .ok (.ireturn, 1) := by decide +kernel
theorem dX6_faultOfNewRule_44 : decode cX6_faultOfNewRule 44 = .ok (.iload_n 2, 1) := by decide +kernel
theorem dX6_faultOfNewRule_45 : decode cX6_faultOfNewRule 45 = .ok (.iconst 1, 1) := by decide +kernel
theorem dX6_faultOfNewRule_46 : decode cX6_faultOfNewRule 46 = .ok (.sipush 255, 3) := by decide +kernel
theorem dX6_faultOfNewRule_49 : decode cX6_faultOfNewRule 49 = .ok (.invokestatic 55, 3) := by decide +kernel
theorem dX6_faultOfNewRule_52 : decode cX6_faultOfNewRule 52 = .ok (.ireturn, 1) := by decide +kernel
theorem dX6_faultOfNewRule_53 : decode cX6_faultOfNewRule 53 = .ok (.iconst 2, 1) := by decide +kernel
theorem dX6_faultOfNewRule_54 : decode cX6_faultOfNewRule 54 = .ok (.ireturn, 1) := by decide +kernel
theorem dX6_hasMember_0 : decode cX6_hasMember 0 = .ok (.iload_n 1, 1) := by decide +kernel
theorem dX6_hasMember_1 : decode cX6_hasMember 1 = .ok (.ifCond .lt 15, 3) := by decide +kernel
theorem dX6_hasMember_4 : decode cX6_hasMember 4 = .ok (.iload_n 1, 1) := by decide +kernel
theorem dX6_hasMember_5 : decode cX6_hasMember 5 = .ok (.aload_n 0, 1) := by decide +kernel
theorem dX6_hasMember_6 : decode cX6_hasMember 6 = .ok (.getfield 33, 3) := by decide +kernel
theorem dX6_hasMember_9 : decode cX6_hasMember 9 = .ok (.if_icmp .ge 7, 3) := by decide +kernel
theorem dX6_hasMember_12 : decode cX6_hasMember 12 = .ok (.iconst 1, 1) := by decide +kernel
theorem dX6_hasMember_13 : decode cX6_hasMember 13 = .ok (.goto 4, 3) := by decide +kernel
theorem dX6_hasMember_16 : decode cX6_hasMember 16 = .ok (.iconst 0, 1) := by decide +kernel
theorem dX6_hasMember_17 : decode cX6_hasMember 17 = .ok (.ireturn, 1) := by decide +kernel
set_option maxRecDepth 20000 in
theorem ggX6_isPlayer_X6_hasMember : GoodIn wsX6_isPlayer wsX6_hasMember := goodIn_r _ [6, 7, 14, 15, 16, 17, 18, 19, 20] (by decide +kernel) (by decide +kernel)
set_option maxRecDepth 20000 in
theorem gX6_isPlayer_X6_hasMember : GoodIn wsX6_isPlayer (wsV RX6 112 RX6 yX6_hasMember wsX6_hasMember) := goodIn_app (goodIn_of _ (by decide +kernel)) ggX6_isPlayer_X6_hasMember
set_option maxRecDepth 20000 in
theorem ggX6_isPlayer_X4_at : GoodIn wsX6_isPlayer wsX4_at := goodIn_r _ [12, 13, 21] (by decide +kernel) (by decide +kernel)
set_option maxRecDepth 20000 in
theorem gX6_isPlayer_X4_at : GoodIn wsX6_isPlayer (wsV RX6 124 RX4 yX4_at wsX4_at) := goodIn_app (goodIn_of _ (by decide +kernel)) ggX6_isPlayer_X4_at
theorem dX6_isPlayer_0 : decode cX6_isPlayer 0 = .ok (.aload_n 0, 1) := by decide +kernel
theorem dX6_isPlayer_1 : decode cX6_isPlayer 1 = .ok (.iload_n 1, 1) := by decide +kernel
theorem dX6_isPlayer_2 : decode cX6_isPlayer 2 = .ok (.invokevirtual 112, 3) := by decide +kernel
theorem dX6_isPlayer_5 : decode cX6_isPlayer 5 = .ok (.ifCond .eq 19, 3) := by decide +kernel
theorem dX6_isPlayer_8 : decode cX6_isPlayer 8 = .ok (.aload_n 0, 1) := by decide +kernel
theorem dX6_isPlayer_9 : decode cX6_isPlayer 9 = .ok (.getfield 20, 3) := by decide +kernel
theorem dX6_isPlayer_12 : decode cX6_isPlayer 12 = .ok (.iload_n 1, 1) := by decide +kernel
theorem dX6_isPlayer_13 : decode cX6_isPlayer 13 = .ok (.invokevirtual 124, 3) := by decide +kernel
theorem dX6_isPlayer_16 : decode cX6_isPlayer 16 = .ok (.iconst (-1), 1) := by decide +kernel
theorem dX6_isPlayer_17 : decode cX6_isPlayer 17 = .ok (.if_icmp .ne 7, 3) := by decide +kernel
theorem dX6_isPlayer_20 : decode cX6_isPlayer 20 = .ok (.iconst 1, 1) := by decide +kernel
theorem dX6_isPlayer_21 : decode cX6_isPlayer 21 = .ok (.goto 4, 3) := by decide +kernel
theorem dX6_isPlayer_24 : decode cX6_isPlayer 24 = .ok (.iconst 0, 1) := by decide +kernel
theorem dX6_isPlayer_25 : decode cX6_isPlayer 25 = .ok (.ireturn, 1) := by decide +kernel
set_option maxRecDepth 20000 in
theorem ggX6_mayFollow_X6_isPlayer : GoodIn wsX6_mayFollow wsX6_isPlayer := goodIn_r _ [5, 6, 7, 8, 9, 4, 10, 11, 12, 13, 14, 15, 16, 17, 22, 23, 24, 25, 26, 27, 28, 29] (by decide +kernel) (by decide +kernel)
set_option maxRecDepth 20000 in
theorem gX6_mayFollow_X6_isPlayer : GoodIn wsX6_mayFollow (wsV RX6 74 RX6 yX6_isPlayer wsX6_isPlayer) := goodIn_app (goodIn_of _ (by decide +kernel)) ggX6_mayFollow_X6_isPlayer
set_option maxRecDepth 20000 in
theorem ggX6_mayFollow_X6_blocOf : GoodIn wsX6_mayFollow wsX6_blocOf := goodIn_r _ [21, 11, 6, 1, 2, 3, 4, 5, 7, 8, 9, 10, 12, 13, 14, 15, 16, 17, 22, 23, 24, 25, 26, 27, 28, 29] (by decide +kernel) (by decide +kernel)
set_option maxRecDepth 20000 in
theorem gX6_mayFollow_X6_blocOf : GoodIn wsX6_mayFollow (wsV RX6 97 RX6 yX6_blocOf wsX6_blocOf) := goodIn_app (goodIn_of _ (by decide +kernel)) ggX6_mayFollow_X6_blocOf
theorem dX6_mayFollow_0 : decode cX6_mayFollow 0 = .ok (.aload_n 0, 1) := by decide +kernel
theorem dX6_mayFollow_1 : decode cX6_mayFollow 1 = .ok (.iload_n 1, 1) := by decide +kernel
theorem dX6_mayFollow_2 : decode cX6_mayFollow 2 = .ok (.invokevirtual 74, 3) := by decide +kernel
theorem dX6_mayFollow_5 : decode cX6_mayFollow 5 = .ok (.ifCond .eq 26, 3) := by decide +kernel
theorem dX6_mayFollow_8 : decode cX6_mayFollow 8 = .ok (.aload_n 0, 1) := by decide +kernel
theorem dX6_mayFollow_9 : decode cX6_mayFollow 9 = .ok (.iload_n 1, 1) := by decide +kernel
theorem dX6_mayFollow_10 : decode cX6_mayFollow 10 = .ok (.invokevirtual 97, 3) := by decide +kernel
theorem dX6_mayFollow_13 : decode cX6_mayFollow 13 = .ok (.iconst 1, 1) := by decide +kernel
theorem dX6_mayFollow_14 : decode cX6_mayFollow 14 = .ok (.iload_n 1, 1) := by decide +kernel
theorem dX6_mayFollow_15 : decode cX6_mayFollow 15 = .ok (.ishl, 1) := by decide +kernel
theorem dX6_mayFollow_16 : decode cX6_mayFollow 16 = .ok (.if_icmp .ne 15, 3) := by decide +kernel
theorem dX6_mayFollow_19 : decode cX6_mayFollow 19 = .ok (.aload_n 0, 1) := by decide +kernel
theorem dX6_mayFollow_20 : decode cX6_mayFollow 20 = .ok (.iload_n 2, 1) := by decide +kernel
theorem dX6_mayFollow_21 : decode cX6_mayFollow 21 = .ok (.invokevirtual 74, 3) := by decide +kernel
theorem dX6_mayFollow_24 : decode cX6_mayFollow 24 = .ok (.ifCond .eq 7, 3) := by decide +kernel
theorem dX6_mayFollow_27 : decode cX6_mayFollow 27 = .ok (.iconst 1, 1) := by decide +kernel
theorem dX6_mayFollow_28 : decode cX6_mayFollow 28 = .ok (.goto 4, 3) := by decide +kernel
theorem dX6_mayFollow_31 : decode cX6_mayFollow 31 = .ok (.iconst 0, 1) := by decide +kernel
theorem dX6_mayFollow_32 : decode cX6_mayFollow 32 = .ok (.ireturn, 1) := by decide +kernel
theorem dX6_everybody_0 : decode cX6_everybody 0 = .ok (.iconst 1, 1) := by decide +kernel
theorem dX6_everybody_1 : decode cX6_everybody 1 = .ok (.aload_n 0, 1) := by decide +kernel
theorem dX6_everybody_2 : decode cX6_everybody 2 = .ok (.getfield 33, 3) := by decide +kernel
theorem dX6_everybody_5 : decode cX6_everybody 5 = .ok (.ishl, 1) := by decide +kernel
theorem dX6_everybody_6 : decode cX6_everybody 6 = .ok (.iconst 1, 1) := by decide +kernel
theorem dX6_everybody_7 : decode cX6_everybody 7 = .ok (.isub, 1) := by decide +kernel
theorem dX6_everybody_8 : decode cX6_everybody 8 = .ok (.ireturn, 1) := by decide +kernel
set_option maxRecDepth 20000 in
theorem ggX6_players_X6_isPlayer : GoodIn wsX6_players wsX6_isPlayer := goodIn_r _ [6, 7, 8, 9, 10, 5, 11, 1, 12, 13, 14, 15, 16, 17, 18, 19, 20, 21, 22, 23, 24, 25] (by decide +kernel) (by decide +kernel)
set_option maxRecDepth 20000 in
theorem gX6_players_X6_isPlayer : GoodIn wsX6_players (wsV RX6 74 RX6 yX6_isPlayer wsX6_isPlayer) := goodIn_app (goodIn_of _ (by decide +kernel)) ggX6_players_X6_isPlayer
theorem dX6_players_0 : decode cX6_players 0 = .ok (.iconst 0, 1) := by decide +kernel
theorem dX6_players_1 : decode cX6_players 1 = .ok (.istore_n 1, 1) := by decide +kernel
theorem dX6_players_2 : decode cX6_players 2 = .ok (.iconst 0, 1) := by decide +kernel
theorem dX6_players_3 : decode cX6_players 3 = .ok (.istore_n 2, 1) := by decide +kernel
theorem dX6_players_4 : decode cX6_players 4 = .ok (.iload_n 2, 1) := by decide +kernel
theorem dX6_players_5 : decode cX6_players 5 = .ok (.aload_n 0, 1) := by decide +kernel
theorem dX6_players_6 : decode cX6_players 6 = .ok (.getfield 33, 3) := by decide +kernel
theorem dX6_players_9 : decode cX6_players 9 = .ok (.if_icmp .ge 23, 3) := by decide +kernel
theorem dX6_players_12 : decode cX6_players 12 = .ok (.aload_n 0, 1) := by decide +kernel
theorem dX6_players_13 : decode cX6_players 13 = .ok (.iload_n 2, 1) := by decide +kernel
theorem dX6_players_14 : decode cX6_players 14 = .ok (.invokevirtual 74, 3) := by decide +kernel
theorem dX6_players_17 : decode cX6_players 17 = .ok (.ifCond .eq 9, 3) := by decide +kernel
theorem dX6_players_20 : decode cX6_players 20 = .ok (.iload_n 1, 1) := by decide +kernel
theorem dX6_players_21 : decode cX6_players 21 = .ok (.iconst 1, 1) := by decide +kernel
theorem dX6_players_22 : decode cX6_players 22 = .ok (.iload_n 2, 1) := by decide +kernel
theorem dX6_players_23 : decode cX6_players 23 = .ok (.ishl, 1) := by decide +kernel
theorem dX6_players_24 : decode cX6_players 24 = .ok (.ior, 1) := by decide +kernel
theorem dX6_players_25 : decode cX6_players 25 = .ok (.istore_n 1, 1) := by decide +kernel
theorem dX6_players_26 : decode cX6_players 26 = .ok (.iinc 2 1, 3) := by decide +kernel
theorem dX6_players_29 : decode cX6_players 29 = .ok (.goto (-25), 3) := by decide +kernel
theorem dX6_players_32 : decode cX6_players 32 = .ok (.iload_n 1, 1) := by decide +kernel
theorem dX6_players_33 : decode cX6_players 33 = .ok (.ireturn, 1) := by decide +kernel
set_option maxRecDepth 20000 in
theorem ggX6_blocOf_X6_isPlayer : GoodIn wsX6_blocOf wsX6_isPlayer := goodIn_r _ [7, 2, 8, 9, 10, 6, 11, 1, 12, 13, 14, 15, 16, 17, 18, 19, 20, 21, 22, 23, 24, 25] (by decide +kernel) (by decide +kernel)
set_option maxRecDepth 20000 in
theorem gX6_blocOf_X6_isPlayer : GoodIn wsX6_blocOf (wsV RX6 74 RX6 yX6_isPlayer wsX6_isPlayer) := goodIn_app (goodIn_of _ (by decide +kernel)) ggX6_blocOf_X6_isPlayer
set_option maxRecDepth 20000 in
theorem ggX6_blocOf_X4_at : GoodIn wsX6_blocOf wsX4_at := goodIn_r _ [16, 17, 25] (by decide +kernel) (by decide +kernel)
set_option maxRecDepth 20000 in
theorem gX6_blocOf_X4_at : GoodIn wsX6_blocOf (wsV RX6 124 RX4 yX4_at wsX4_at) := goodIn_app (goodIn_of _ (by decide +kernel)) ggX6_blocOf_X4_at
theorem dX6_blocOf_0 : decode cX6_blocOf 0 = .ok (.aload_n 0, 1) := by decide +kernel
theorem dX6_blocOf_1 : decode cX6_blocOf 1 = .ok (.iload_n 1, 1) := by decide +kernel
theorem dX6_blocOf_2 : decode cX6_blocOf 2 = .ok (.invokevirtual 74, 3) := by decide +kernel
theorem dX6_blocOf_5 : decode cX6_blocOf 5 = .ok (.ifCond .ne 5, 3) := by decide +kernel
theorem dX6_blocOf_8 : decode cX6_blocOf 8 = .ok (.iconst 0, 1) := by decide +kernel
theorem dX6_blocOf_9 : decode cX6_blocOf 9 = .ok (.ireturn, 1) := by decide +kernel
theorem dX6_blocOf_10 : decode cX6_blocOf 10 = .ok (.iconst 1, 1) := by decide +kernel
theorem dX6_blocOf_11 : decode cX6_blocOf 11 = .ok (.iload_n 1, 1) := by decide +kernel
theorem dX6_blocOf_12 : decode cX6_blocOf 12 = .ok (.ishl, 1) := by decide +kernel
theorem dX6_blocOf_13 : decode cX6_blocOf 13 = .ok (.istore_n 2, 1) := by decide +kernel
theorem dX6_blocOf_14 : decode cX6_blocOf 14 = .ok (.iconst 0, 1) := by decide +kernel
theorem dX6_blocOf_15 : decode cX6_blocOf 15 = .ok (.istore_n 3, 1) := by decide +kernel
theorem dX6_blocOf_16 : decode cX6_blocOf 16 = .ok (.iload_n 3, 1) := by decide +kernel
theorem dX6_blocOf_17 : decode cX6_blocOf 17 = .ok (.aload_n 0, 1) := by decide +kernel
theorem dX6_blocOf_18 : decode cX6_blocOf 18 = .ok (.getfield 33, 3) := by decide +kernel
theorem dX6_blocOf_21 : decode cX6_blocOf 21 = .ok (.if_icmp .ge 27, 3) := by decide +kernel
theorem dX6_blocOf_24 : decode cX6_blocOf 24 = .ok (.aload_n 0, 1) := by decide +kernel
theorem dX6_blocOf_25 : decode cX6_blocOf 25 = .ok (.getfield 20, 3) := by decide +kernel
theorem dX6_blocOf_28 : decode cX6_blocOf 28 = .ok (.iload_n 3, 1) := by decide +kernel
theorem dX6_blocOf_29 : decode cX6_blocOf 29 = .ok (.invokevirtual 124, 3) := by decide +kernel
theorem dX6_blocOf_32 : decode cX6_blocOf 32 = .ok (.iload_n 1, 1) := by decide +kernel
theorem dX6_blocOf_33 : decode cX6_blocOf 33 = .ok (.if_icmp .ne 9, 3) := by decide +kernel
theorem dX6_blocOf_36 : decode cX6_blocOf 36 = .ok (.iload_n 2, 1) := by decide +kernel
theorem dX6_blocOf_37 : decode cX6_blocOf 37 = .ok (.iconst 1, 1) := by decide +kernel
theorem dX6_blocOf_38 : decode cX6_blocOf 38 = .ok (.iload_n 3, 1) := by decide +kernel
theorem dX6_blocOf_39 : decode cX6_blocOf 39 = .ok (.ishl, 1) := by decide +kernel
theorem dX6_blocOf_40 : decode cX6_blocOf 40 = .ok (.ior, 1) := by decide +kernel
theorem dX6_blocOf_41 : decode cX6_blocOf 41 = .ok (.istore_n 2, 1) := by decide +kernel
theorem dX6_blocOf_42 : decode cX6_blocOf 42 = .ok (.iinc 3 1, 3) := by decide +kernel
theorem dX6_blocOf_45 : decode cX6_blocOf 45 = .ok (.goto (-29), 3) := by decide +kernel
theorem dX6_blocOf_48 : decode cX6_blocOf 48 = .ok (.iload_n 2, 1) := by decide +kernel
theorem dX6_blocOf_49 : decode cX6_blocOf 49 = .ok (.ireturn, 1) := by decide +kernel
set_option maxRecDepth 20000 in
theorem ggX6_weightOf_X7_contains : GoodIn wsX6_weightOf wsX7_contains := goodIn_r _ [5] (by decide +kernel) (by decide +kernel)
set_option maxRecDepth 20000 in
theorem gX6_weightOf_X7_contains_n121 : GoodIn wsX6_weightOf (wsX7_contains) := ggX6_weightOf_X7_contains
set_option maxRecDepth 20000 in
theorem ggX6_weightOf_X4_at : GoodIn wsX6_weightOf wsX4_at := goodIn_r _ [10, 11, 19] (by decide +kernel) (by decide +kernel)
set_option maxRecDepth 20000 in
theorem gX6_weightOf_X4_at : GoodIn wsX6_weightOf (wsV RX6 124 RX4 yX4_at wsX4_at) := goodIn_app (goodIn_of _ (by decide +kernel)) ggX6_weightOf_X4_at
theorem dX6_weightOf_0 : decode cX6_weightOf 0 = .ok (.iconst 0, 1) := by decide +kernel
theorem dX6_weightOf_1 : decode cX6_weightOf 1 = .ok (.istore_n 2, 1) := by decide +kernel
theorem dX6_weightOf_2 : decode cX6_weightOf 2 = .ok (.iconst 0, 1) := by decide +kernel
theorem dX6_weightOf_3 : decode cX6_weightOf 3 = .ok (.istore_n 3, 1) := by decide +kernel
theorem dX6_weightOf_4 : decode cX6_weightOf 4 = .ok (.iload_n 3, 1) := by decide +kernel
theorem dX6_weightOf_5 : decode cX6_weightOf 5 = .ok (.aload_n 0, 1) := by decide +kernel
theorem dX6_weightOf_6 : decode cX6_weightOf 6 = .ok (.getfield 33, 3) := by decide +kernel
theorem dX6_weightOf_9 : decode cX6_weightOf 9 = .ok (.if_icmp .ge 28, 3) := by decide +kernel
theorem dX6_weightOf_12 : decode cX6_weightOf 12 = .ok (.iload_n 1, 1) := by decide +kernel
theorem dX6_weightOf_13 : decode cX6_weightOf 13 = .ok (.iload_n 3, 1) := by decide +kernel
theorem dX6_weightOf_14 : decode cX6_weightOf 14 = .ok (.invokestatic 121, 3) := by decide +kernel
theorem dX6_weightOf_17 : decode cX6_weightOf 17 = .ok (.ifCond .eq 14, 3) := by decide +kernel
theorem dX6_weightOf_20 : decode cX6_weightOf 20 = .ok (.iload_n 2, 1) := by decide +kernel
theorem dX6_weightOf_21 : decode cX6_weightOf 21 = .ok (.aload_n 0, 1) := by decide +kernel
theorem dX6_weightOf_22 : decode cX6_weightOf 22 = .ok (.getfield 14, 3) := by decide +kernel
theorem dX6_weightOf_25 : decode cX6_weightOf 25 = .ok (.iload_n 3, 1) := by decide +kernel
theorem dX6_weightOf_26 : decode cX6_weightOf 26 = .ok (.invokevirtual 124, 3) := by decide +kernel
theorem dX6_weightOf_29 : decode cX6_weightOf 29 = .ok (.iadd, 1) := by decide +kernel
theorem dX6_weightOf_30 : decode cX6_weightOf 30 = .ok (.istore_n 2, 1) := by decide +kernel
theorem dX6_weightOf_31 : decode cX6_weightOf 31 = .ok (.iinc 3 1, 3) := by decide +kernel
theorem dX6_weightOf_34 : decode cX6_weightOf 34 = .ok (.goto (-30), 3) := by decide +kernel
theorem dX6_weightOf_37 : decode cX6_weightOf 37 = .ok (.iload_n 2, 1) := by decide +kernel
theorem dX6_weightOf_38 : decode cX6_weightOf 38 = .ok (.ireturn, 1) := by decide +kernel
set_option maxRecDepth 20000 in
theorem ggX6_isKept_X4_at : GoodIn wsX6_isKept wsX4_at := goodIn_r _ [7, 8, 26] (by decide +kernel) (by decide +kernel)
set_option maxRecDepth 20000 in
theorem gX6_isKept_X4_at : GoodIn wsX6_isKept (wsV RX6 124 RX4 yX4_at wsX4_at) := goodIn_app (goodIn_of _ (by decide +kernel)) ggX6_isKept_X4_at
set_option maxRecDepth 20000 in
theorem ggX6_isKept_J6_bitCount_0f7a4 : GoodIn wsX6_isKept wsJ6_bitCount_0f7a4 := goodIn_r _ [12, 13, 14, 15] (by decide +kernel) (by decide +kernel)
set_option maxRecDepth 20000 in
theorem gX6_isKept_J6_bitCount_0f7a4 : GoodIn wsX6_isKept (va_wsS RX6 127 yJ6_bitCount_0f7a4 wsJ6_bitCount_0f7a4) := goodIn_app (goodIn_of _ (by decide +kernel)) ggX6_isKept_J6_bitCount_0f7a4
set_option maxRecDepth 20000 in
theorem ggX6_isKept_X7_contains : GoodIn wsX6_isKept wsX7_contains := goodIn_r _ [18] (by decide +kernel) (by decide +kernel)
set_option maxRecDepth 20000 in
theorem gX6_isKept_X7_contains_n121 : GoodIn wsX6_isKept (wsX7_contains) := ggX6_isKept_X7_contains
theorem dX6_isKept_0 : decode cX6_isKept 0 = .ok (.aload_n 0, 1) := by decide +kernel
theorem dX6_isKept_1 : decode cX6_isKept 1 = .ok (.getfield 30, 3) := by decide +kernel
theorem dX6_isKept_4 : decode cX6_isKept 4 = .ok (.iload_n 1, 1) := by decide +kernel
theorem dX6_isKept_5 : decode cX6_isKept 5 = .ok (.invokevirtual 124, 3) := by decide +kernel
theorem dX6_isKept_8 : decode cX6_isKept 8 = .ok (.istore_n 3, 1) := by decide +kernel
theorem dX6_isKept_9 : decode cX6_isKept 9 = .ok (.aload_n 0, 1) := by decide +kernel
theorem dX6_isKept_10 : decode cX6_isKept 10 = .ok (.getfield 27, 3) := by decide +kernel
theorem dX6_isKept_13 : decode cX6_isKept 13 = .ok (.iload_n 1, 1) := by decide +kernel
theorem dX6_isKept_14 : decode cX6_isKept 14 = .ok (.invokevirtual 124, 3) := by decide +kernel
theorem dX6_isKept_17 : decode cX6_isKept 17 = .ok (.lookupswitch 47 #[(0, 27), (1, 41)], 27) := by decide +kernel
theorem dX6_isKept_44 : decode cX6_isKept 44 = .ok (.iload_n 2, 1) := by decide +kernel
theorem dX6_isKept_45 : decode cX6_isKept 45 = .ok (.invokestatic 127, 3) := by decide +kernel
theorem dX6_isKept_48 : decode cX6_isKept 48 = .ok (.iload_n 3, 1) := by decide +kernel
theorem dX6_isKept_49 : decode cX6_isKept 49 = .ok (.if_icmp .lt 7, 3) := by decide +kernel
theorem dX6_isKept_52 : decode cX6_isKept 52 = .ok (.iconst 1, 1) := by decide +kernel
theorem dX6_isKept_53 : decode cX6_isKept 53 = .ok (.goto 4, 3) := by decide +kernel
theorem dX6_isKept_56 : decode cX6_isKept 56 = .ok (.iconst 0, 1) := by decide +kernel
theorem dX6_isKept_57 : decode cX6_isKept 57 = .ok (.ireturn, 1) := by decide +kernel
theorem dX6_isKept_58 : decode cX6_isKept 58 = .ok (.iload_n 2, 1) := by decide +kernel
theorem dX6_isKept_59 : decode cX6_isKept 59 = .ok (.iload_n 3, 1) := by decide +kernel
theorem dX6_isKept_60 : decode cX6_isKept 60 = .ok (.invokestatic 121, 3) := by decide +kernel
theorem dX6_isKept_63 : decode cX6_isKept 63 = .ok (.ireturn, 1) := by decide +kernel
theorem dX6_isKept_64 : decode cX6_isKept 64 = .ok (.iload_n 2, 1) := by decide +kernel
theorem dX6_isKept_65 : decode cX6_isKept 65 = .ok (.iload_n 3, 1) := by decide +kernel
theorem dX6_isKept_66 : decode cX6_isKept 66 = .ok (.iand, 1) := by decide +kernel
theorem dX6_isKept_67 : decode cX6_isKept 67 = .ok (.ifCond .eq 7, 3) := by decide +kernel
theorem dX6_isKept_70 : decode cX6_isKept 70 = .ok (.iconst 1, 1) := by decide +kernel
theorem dX6_isKept_71 : decode cX6_isKept 71 = .ok (.goto 4, 3) := by decide +kernel
theorem dX6_isKept_74 : decode cX6_isKept 74 = .ok (.iconst 0, 1) := by decide +kernel
theorem dX6_isKept_75 : decode cX6_isKept 75 = .ok (.ireturn, 1) := by decide +kernel
set_option maxRecDepth 20000 in
theorem ggX6_firstBrokenRule_X6_isKept : GoodIn wsX6_firstBrokenRule wsX6_isKept := goodIn_r _ [6, 7, 8, 9, 10, 11, 12, 13, 14, 15, 16, 17, 18, 19, 20, 21, 22, 23, 24, 25, 26, 27, 28, 29, 30, 31, 32] (by decide +kernel) (by decide +kernel)
set_option maxRecDepth 20000 in
theorem gX6_firstBrokenRule_X6_isKept : GoodIn wsX6_firstBrokenRule (wsV RX6 132 RX6 yX6_isKept wsX6_isKept) := goodIn_app (goodIn_of _ (by decide +kernel)) ggX6_firstBrokenRule_X6_isKept
theorem dX6_firstBrokenRule_0 : decode cX6_firstBrokenRule 0 = .ok (.iconst 0, 1) := by decide +kernel
theorem dX6_firstBrokenRule_1 : decode cX6_firstBrokenRule 1 = .ok (.istore_n 2, 1) := by decide +kernel
theorem dX6_firstBrokenRule_2 : decode cX6_firstBrokenRule 2 = .ok (.iload_n 2, 1) := by decide +kernel
theorem dX6_firstBrokenRule_3 : decode cX6_firstBrokenRule 3 = .ok (.aload_n 0, 1) := by decide +kernel
theorem dX6_firstBrokenRule_4 : decode cX6_firstBrokenRule 4 = .ok (.getfield 40, 3) := by decide +kernel
theorem dX6_firstBrokenRule_7 : decode cX6_firstBrokenRule 7 = .ok (.if_icmp .ge 20, 3) := by decide +kernel
theorem dX6_firstBrokenRule_10 : decode cX6_firstBrokenRule 10 = .ok (.aload_n 0, 1) := by decide +kernel
theorem dX6_firstBrokenRule_11 : decode cX6_firstBrokenRule 11 = .ok (.iload_n 2, 1) := by decide +kernel
theorem dX6_firstBrokenRule_12 : decode cX6_firstBrokenRule 12 = .ok (.iload_n 1, 1) := by decide +kernel
theorem dX6_firstBrokenRule_13 : decode cX6_firstBrokenRule 13 = .ok (.invokevirtual 132, 3) := by decide +kernel
theorem dX6_firstBrokenRule_16 : decode cX6_firstBrokenRule 16 = .ok (.ifCond .ne 5, 3) := by decide +kernel
theorem dX6_firstBrokenRule_19 : decode cX6_firstBrokenRule 19 = .ok (.iload_n 2, 1) := by decide +kernel
theorem dX6_firstBrokenRule_20 : decode cX6_firstBrokenRule 20 = .ok (.ireturn, 1) := by decide +kernel
theorem dX6_firstBrokenRule_21 : decode cX6_firstBrokenRule 21 = .ok (.iinc 2 1, 3) := by decide +kernel
theorem dX6_firstBrokenRule_24 : decode cX6_firstBrokenRule 24 = .ok (.goto (-22), 3) := by decide +kernel
theorem dX6_firstBrokenRule_27 : decode cX6_firstBrokenRule 27 = .ok (.iconst (-1), 1) := by decide +kernel
theorem dX6_firstBrokenRule_28 : decode cX6_firstBrokenRule 28 = .ok (.ireturn, 1) := by decide +kernel
set_option maxRecDepth 20000 in
theorem ggX6_memberValue_X4_at : GoodIn wsX6_memberValue wsX4_at := goodIn_r _ [7, 8, 44] (by decide +kernel) (by decide +kernel)
set_option maxRecDepth 20000 in
theorem gX6_memberValue_X4_at : GoodIn wsX6_memberValue (wsV RX6 124 RX4 yX4_at wsX4_at) := goodIn_app (goodIn_of _ (by decide +kernel)) ggX6_memberValue_X4_at
set_option maxRecDepth 20000 in
theorem ggX6_memberValue_X6_isPlayer : GoodIn wsX6_memberValue wsX6_isPlayer := goodIn_r _ [13, 2, 14, 15, 16, 12, 17, 18, 3, 4, 5, 6, 7, 8, 37, 38, 39, 40, 41, 42, 43, 44] (by decide +kernel) (by decide +kernel)
set_option maxRecDepth 20000 in
theorem gX6_memberValue_X6_isPlayer : GoodIn wsX6_memberValue (wsV RX6 74 RX6 yX6_isPlayer wsX6_isPlayer) := goodIn_app (goodIn_of _ (by decide +kernel)) ggX6_memberValue_X6_isPlayer
set_option maxRecDepth 20000 in
theorem ggX6_memberValue_X6_blocOf : GoodIn wsX6_memberValue wsX6_blocOf := goodIn_r _ [22, 18, 2, 9, 10, 11, 12, 13, 14, 15, 16, 17, 3, 4, 5, 6, 7, 8, 37, 38, 39, 40, 41, 42, 43, 44] (by decide +kernel) (by decide +kernel)
set_option maxRecDepth 20000 in
theorem gX6_memberValue_X6_blocOf : GoodIn wsX6_memberValue (wsV RX6 97 RX6 yX6_blocOf wsX6_blocOf) := goodIn_app (goodIn_of _ (by decide +kernel)) ggX6_memberValue_X6_blocOf
set_option maxRecDepth 20000 in
theorem ggX6_memberValue_J6_bitCount_0f7a4 : GoodIn wsX6_memberValue wsJ6_bitCount_0f7a4 := goodIn_r _ [26, 27, 28, 29] (by decide +kernel) (by decide +kernel)
set_option maxRecDepth 20000 in
theorem gX6_memberValue_J6_bitCount_0f7a4 : GoodIn wsX6_memberValue (va_wsS RX6 127 yJ6_bitCount_0f7a4 wsJ6_bitCount_0f7a4) := goodIn_app (goodIn_of _ (by decide +kernel)) ggX6_memberValue_J6_bitCount_0f7a4
set_option maxRecDepth 20000 in
theorem ggX6_memberValue_X6_weightOf : GoodIn wsX6_memberValue wsX6_weightOf := goodIn_r _ [33, 18, 1, 34, 35, 36, 3, 4, 5, 6, 7, 8, 37, 38, 39, 40, 41, 42, 43, 44] (by decide +kernel) (by decide +kernel)
set_option maxRecDepth 20000 in
theorem gX6_memberValue_X6_weightOf : GoodIn wsX6_memberValue (wsV RX6 100 RX6 yX6_weightOf wsX6_weightOf) := goodIn_app (goodIn_of _ (by decide +kernel)) ggX6_memberValue_X6_weightOf
theorem dX6_memberValue_0 : decode cX6_memberValue 0 = .ok (.iload_n 2, 1) := by decide +kernel
theorem dX6_memberValue_1 : decode cX6_memberValue 1 = .ok (.tableswitch 68 0 2 #[27, 36, 45], 27) := by decide +kernel
theorem dX6_memberValue_28 : decode cX6_memberValue 28 = .ok (.aload_n 0, 1) := by decide +kernel
theorem dX6_memberValue_29 : decode cX6_memberValue 29 = .ok (.getfield 14, 3) := by decide +kernel
theorem dX6_memberValue_32 : decode cX6_memberValue 32 = .ok (.iload_n 1, 1) := by decide +kernel
theorem dX6_memberValue_33 : decode cX6_memberValue 33 = .ok (.invokevirtual 124, 3) := by decide +kernel
theorem dX6_memberValue_36 : decode cX6_memberValue 36 = .ok (.ireturn, 1) := by decide +kernel
theorem dX6_memberValue_37 : decode cX6_memberValue 37 = .ok (.aload_n 0, 1) := by decide +kernel
theorem dX6_memberValue_38 : decode cX6_memberValue 38 = .ok (.getfield 20, 3) := by decide +kernel
theorem dX6_memberValue_41 : decode cX6_memberValue 41 = .ok (.iload_n 1, 1) := by decide +kernel
theorem dX6_memberValue_42 : decode cX6_memberValue 42 = .ok (.invokevirtual 124, 3) := by decide +kernel
theorem dX6_memberValue_45 : decode cX6_memberValue 45 = .ok (.ireturn, 1) := by decide +kernel
theorem dX6_memberValue_46 : decode cX6_memberValue 46 = .ok (.aload_n 0, 1) := by decide +kernel
theorem dX6_memberValue_47 : decode cX6_memberValue 47 = .ok (.iload_n 1, 1) := by decide +kernel
theorem dX6_memberValue_48 : decode cX6_memberValue 48 = .ok (.invokevirtual 74, 3) := by decide +kernel
theorem dX6_memberValue_51 : decode cX6_memberValue 51 = .ok (.ifCond .eq 16, 3) := by decide +kernel
theorem dX6_memberValue_54 : decode cX6_memberValue 54 = .ok (.aload_n 0, 1) := by decide +kernel
theorem dX6_memberValue_55 : decode cX6_memberValue 55 = .ok (.iload_n 1, 1) := by decide +kernel
theorem dX6_memberValue_56 : decode cX6_memberValue 56 = .ok (.invokevirtual 97, 3) := by decide +kernel
theorem dX6_memberValue_59 : decode cX6_memberValue 59 = .ok (.invokestatic 127, 3) := by decide +kernel
theorem dX6_memberValue_62 : decode cX6_memberValue 62 = .ok (.iconst 1, 1) := by decide +kernel
theorem dX6_memberValue_63 : decode cX6_memberValue 63 = .ok (.isub, 1) := by decide +kernel
theorem dX6_memberValue_64 : decode cX6_memberValue 64 = .ok (.goto 4, 3) := by decide +kernel
theorem dX6_memberValue_67 : decode cX6_memberValue 67 = .ok (.iconst 0, 1) := by decide +kernel
theorem dX6_memberValue_68 : decode cX6_memberValue 68 = .ok (.ireturn, 1) := by decide +kernel
theorem dX6_memberValue_69 : decode cX6_memberValue 69 = .ok (.aload_n 0, 1) := by decide +kernel
theorem dX6_memberValue_70 : decode cX6_memberValue 70 = .ok (.aload_n 0, 1) := by decide +kernel
theorem dX6_memberValue_71 : decode cX6_memberValue 71 = .ok (.iload_n 1, 1) := by decide +kernel
theorem dX6_memberValue_72 : decode cX6_memberValue 72 = .ok (.invokevirtual 97, 3) := by decide +kernel
theorem dX6_memberValue_75 : decode cX6_memberValue 75 = .ok (.invokevirtual 100, 3) := by decide +kernel
theorem dX6_memberValue_78 : decode cX6_memberValue 78 = .ok (.ireturn, 1) := by decide +kernel
set_option maxRecDepth 20000 in
theorem ggX6_ruleValue_X4_at : GoodIn wsX6_ruleValue wsX4_at := goodIn_r _ [7, 8, 36] (by decide +kernel) (by decide +kernel)
set_option maxRecDepth 20000 in
theorem gX6_ruleValue_X4_at : GoodIn wsX6_ruleValue (wsV RX6 124 RX4 yX4_at wsX4_at) := goodIn_app (goodIn_of _ (by decide +kernel)) ggX6_ruleValue_X4_at
set_option maxRecDepth 20000 in
theorem ggX6_ruleValue_X6_everybody : GoodIn wsX6_ruleValue wsX6_everybody := goodIn_r _ [13, 14, 29, 30, 31, 32, 33, 34, 35] (by decide +kernel) (by decide +kernel)
set_option maxRecDepth 20000 in
theorem gX6_ruleValue_X6_everybody : GoodIn wsX6_ruleValue (wsV RX6 115 RX6 yX6_everybody wsX6_everybody) := goodIn_app (goodIn_of _ (by decide +kernel)) ggX6_ruleValue_X6_everybody
set_option maxRecDepth 20000 in
theorem ggX6_ruleValue_X6_isKept : GoodIn wsX6_ruleValue wsX6_isKept := goodIn_r _ [18, 2, 1, 3, 4, 5, 6, 7, 8, 19, 20, 21, 22, 23, 24, 25, 26, 27, 28, 29, 30, 31, 32, 33, 34, 35, 36] (by decide +kernel) (by decide +kernel)
set_option maxRecDepth 20000 in
theorem gX6_ruleValue_X6_isKept : GoodIn wsX6_ruleValue (wsV RX6 132 RX6 yX6_isKept wsX6_isKept) := goodIn_app (goodIn_of _ (by decide +kernel)) ggX6_ruleValue_X6_isKept
theorem dX6_ruleValue_0 : decode cX6_ruleValue 0 = .ok (.iload_n 2, 1) := by decide +kernel
theorem dX6_ruleValue_1 : decode cX6_ruleValue 1 = .ok (.lookupswitch 45 #[(0, 27), (1, 36)], 27) := by decide +kernel
theorem dX6_ruleValue_28 : decode cX6_ruleValue 28 = .ok (.aload_n 0, 1) := by decide +kernel
theorem dX6_ruleValue_29 : decode cX6_ruleValue 29 = .ok (.getfield 27, 3) := by decide +kernel
theorem dX6_ruleValue_32 : decode cX6_ruleValue 32 = .ok (.iload_n 1, 1) := by decide +kernel
theorem dX6_ruleValue_33 : decode cX6_ruleValue 33 = .ok (.invokevirtual 124, 3) := by decide +kernel
theorem dX6_ruleValue_36 : decode cX6_ruleValue 36 = .ok (.ireturn, 1) := by decide +kernel
theorem dX6_ruleValue_37 : decode cX6_ruleValue 37 = .ok (.aload_n 0, 1) := by decide +kernel
theorem dX6_ruleValue_38 : decode cX6_ruleValue 38 = .ok (.getfield 30, 3) := by decide +kernel
theorem dX6_ruleValue_41 : decode cX6_ruleValue 41 = .ok (.iload_n 1, 1) := by decide +kernel
theorem dX6_ruleValue_42 : decode cX6_ruleValue 42 = .ok (.invokevirtual 124, 3) := by decide +kernel
theorem dX6_ruleValue_45 : decode cX6_ruleValue 45 = .ok (.ireturn, 1) := by decide +kernel
theorem dX6_ruleValue_46 : decode cX6_ruleValue 46 = .ok (.aload_n 0, 1) := by decide +kernel
theorem dX6_ruleValue_47 : decode cX6_ruleValue 47 = .ok (.iload_n 1, 1) := by decide +kernel
theorem dX6_ruleValue_48 : decode cX6_ruleValue 48 = .ok (.aload_n 0, 1) := by decide +kernel
theorem dX6_ruleValue_49 : decode cX6_ruleValue 49 = .ok (.invokevirtual 115, 3) := by decide +kernel
theorem dX6_ruleValue_52 : decode cX6_ruleValue 52 = .ok (.invokevirtual 132, 3) := by decide +kernel
theorem dX6_ruleValue_55 : decode cX6_ruleValue 55 = .ok (.ifCond .eq 7, 3) := by decide +kernel
theorem dX6_ruleValue_58 : decode cX6_ruleValue 58 = .ok (.iconst 1, 1) := by decide +kernel
theorem dX6_ruleValue_59 : decode cX6_ruleValue 59 = .ok (.goto 4, 3) := by decide +kernel
theorem dX6_ruleValue_62 : decode cX6_ruleValue 62 = .ok (.iconst 0, 1) := by decide +kernel
theorem dX6_ruleValue_63 : decode cX6_ruleValue 63 = .ok (.ireturn, 1) := by decide +kernel
set_option maxRecDepth 20000 in
theorem ggX6_wholeValue_X6_players : GoodIn wsX6_wholeValue wsX6_players := goodIn_r _ [8, 1, 9, 10, 11, 7, 12, 13, 14, 15, 16, 17, 18, 19, 20, 21, 22, 23, 48, 49, 50, 51, 52, 53, 54, 55] (by decide +kernel) (by decide +kernel)
set_option maxRecDepth 20000 in
theorem gX6_wholeValue_X6_players : GoodIn wsX6_wholeValue (wsV RX6 118 RX6 yX6_players wsX6_players) := goodIn_app (goodIn_of _ (by decide +kernel)) ggX6_wholeValue_X6_players
set_option maxRecDepth 20000 in
theorem ggX6_wholeValue_J6_bitCount_0f7a4 : GoodIn wsX6_wholeValue wsJ6_bitCount_0f7a4 := goodIn_r _ [27, 28, 29, 30] (by decide +kernel) (by decide +kernel)
set_option maxRecDepth 20000 in
theorem gX6_wholeValue_J6_bitCount_0f7a4 : GoodIn wsX6_wholeValue (va_wsS RX6 127 yJ6_bitCount_0f7a4 wsJ6_bitCount_0f7a4) := goodIn_app (goodIn_of _ (by decide +kernel)) ggX6_wholeValue_J6_bitCount_0f7a4
set_option maxRecDepth 20000 in
theorem ggX6_wholeValue_X6_everybody : GoodIn wsX6_wholeValue wsX6_everybody := goodIn_r _ [34, 1, 48, 49, 50, 51, 52, 53, 54] (by decide +kernel) (by decide +kernel)
set_option maxRecDepth 20000 in
theorem gX6_wholeValue_X6_everybody : GoodIn wsX6_wholeValue (wsV RX6 115 RX6 yX6_everybody wsX6_everybody) := goodIn_app (goodIn_of _ (by decide +kernel)) ggX6_wholeValue_X6_everybody
set_option maxRecDepth 20000 in
theorem ggX6_wholeValue_X6_weightOf : GoodIn wsX6_wholeValue wsX6_weightOf := goodIn_r _ [38, 1, 39, 40, 41, 42, 18, 19, 20, 21, 22, 23, 48, 49, 50, 51, 52, 53, 54, 55] (by decide +kernel) (by decide +kernel)
set_option maxRecDepth 20000 in
theorem gX6_wholeValue_X6_weightOf : GoodIn wsX6_wholeValue (wsV RX6 100 RX6 yX6_weightOf wsX6_weightOf) := goodIn_app (goodIn_of _ (by decide +kernel)) ggX6_wholeValue_X6_weightOf
set_option maxRecDepth 20000 in
theorem ggX6_wholeValue_X6_rulesLikeTheFirst : GoodIn wsX6_wholeValue wsX6_rulesLikeTheFirst := goodIn_r _ [46, 3, 47, 18, 19, 20, 21, 22, 23, 48, 49, 50, 51, 52, 53, 54, 55] (by decide +kernel) (by decide +kernel)
set_option maxRecDepth 20000 in
theorem gX6_wholeValue_X6_rulesLikeTheFirst : GoodIn wsX6_wholeValue (wsV RX6 135 RX6 yX6_rulesLikeTheFirst wsX6_rulesLikeTheFirst) := goodIn_app (goodIn_of _ (by decide +kernel)) ggX6_wholeValue_X6_rulesLikeTheFirst
theorem dX6_wholeValue_0 : decode cX6_wholeValue 0 = .ok (.iload_n 1, 1) := by decide +kernel
theorem dX6_wholeValue_1 : decode cX6_wholeValue 1 = .ok (.tableswitch 67 0 4 #[35, 40, 48, 53, 58], 35) := by decide +kernel
theorem dX6_wholeValue_36 : decode cX6_wholeValue 36 = .ok (.aload_n 0, 1) := by decide +kernel
theorem dX6_wholeValue_37 : decode cX6_wholeValue 37 = .ok (.getfield 33, 3) := by decide +kernel
theorem dX6_wholeValue_40 : decode cX6_wholeValue 40 = .ok (.ireturn, 1) := by decide +kernel
theorem dX6_wholeValue_41 : decode cX6_wholeValue 41 = .ok (.aload_n 0, 1) := by decide +kernel
theorem dX6_wholeValue_42 : decode cX6_wholeValue 42 = .ok (.invokevirtual 118, 3) := by decide +kernel
theorem dX6_wholeValue_45 : decode cX6_wholeValue 45 = .ok (.invokestatic 127, 3) := by decide +kernel
theorem dX6_wholeValue_48 : decode cX6_wholeValue 48 = .ok (.ireturn, 1) := by decide +kernel
theorem dX6_wholeValue_49 : decode cX6_wholeValue 49 = .ok (.aload_n 0, 1) := by decide +kernel
theorem dX6_wholeValue_50 : decode cX6_wholeValue 50 = .ok (.getfield 23, 3) := by decide +kernel
