set_option maxRecDepth 20000 in
theorem ggL_law_L_low : GoodIn wsL_law wsL_low := goodIn_r _ [349, 4] (by decide +kernel) (by decide +kernel)
set_option maxRecDepth 20000 in
theorem gL_law_L_low : GoodIn wsL_law (va_wsS RL 68 yL_low wsL_low) := goodIn_app (goodIn_of _ (by decide +kernel)) ggL_law_L_low
set_option maxRecDepth 20000 in
theorem ggL_law_L_wholeOf : GoodIn wsL_law wsL_wholeOf := goodIn_ca (goodIn_ca (goodIn_ca (goodIn_r _ [316, 101, 5, 317, 318, 319, 2, 320, 254, 230, 231, 106, 107, 108, 109, 110, 111, 112, 113, 114, 115, 116, 117, 118, 22, 21, 17, 119, 120, 121, 20, 122, 123, 124, 125, 126, 127, 128, 56, 57, 129, 130, 131, 16, 132, 133, 134, 135, 136, 137, 40, 138, 139, 140, 141, 142, 143, 144, 38, 145, 48, 146, 147, 148, 149, 53, 150, 151, 152, 153, 154, 155, 156, 157, 158, 159, 160, 161, 162, 163, 164, 165, 166, 54, 167, 168, 169, 170, 171, 172, 173, 174, 175, 176, 177, 178, 179, 43, 42, 180, 181, 182, 183, 184, 185, 186, 187, 188, 189, 190, 191, 192, 39, 193, 194, 195, 196, 197, 198, 199, 200, 201, 202, 203, 204, 55, 205, 206, 207, 208, 209, 210, 211, 212, 213, 214, 215, 216, 321, 322, 323, 324, 32, 325, 326, 327, 328, 41, 329, 229, 264, 330, 331, 332, 333, 334, 335, 336, 337, 269, 270, 271, 272, 273, 274, 275, 276, 492, 493, 494, 495, 496, 497, 498, 506, 507, 508, 509, 510, 511, 512, 513, 514, 515, 516, 517, 518, 499, 500, 501, 502, 503, 504, 505, 528, 522, 523, 524, 525, 526, 527] (by decide +kernel) (by decide +kernel)) (goodIn_sub (fun _ h => List.mem_append_left _ (List.mem_append_left _ (List.mem_append_right _ h))) (by decide +kernel))) (goodIn_sub (fun _ h => List.mem_append_left _ (List.mem_append_right _ h)) (by decide +kernel))) (goodIn_sub (fun _ h => List.mem_append_right _ h) (by decide +kernel))
set_option maxRecDepth 20000 in
theorem gL_law_L_wholeOf : GoodIn wsL_law (va_wsS RL 154 yL_wholeOf wsL_wholeOf) := goodIn_app (goodIn_of _ (by decide +kernel)) ggL_law_L_wholeOf
set_option maxRecDepth 20000 in
theorem ggL_law_L_leastOf : GoodIn wsL_law wsL_leastOf := goodIn_ca (goodIn_ca (goodIn_ca (goodIn_r _ [100, 101, 5, 102, 103, 104, 2, 105, 106, 107, 108, 109, 110, 111, 112, 113, 114, 115, 116, 117, 118, 22, 21, 17, 119, 120, 121, 20, 122, 123, 124, 125, 126, 127, 128, 56, 57, 129, 130, 131, 16, 132, 133, 134, 135, 136, 137, 40, 138, 139, 140, 141, 142, 143, 144, 38, 145, 48, 146, 147, 148, 149, 53, 150, 151, 152, 153, 154, 155, 156, 157, 158, 159, 160, 161, 162, 163, 164, 165, 166, 54, 167, 168, 169, 170, 171, 172, 173, 174, 175, 176, 177, 178, 179, 43, 42, 180, 181, 182, 183, 184, 185, 186, 187, 188, 189, 190, 191, 192, 39, 193, 194, 195, 196, 197, 198, 199, 200, 201, 202, 203, 204, 55, 205, 206, 207, 208, 209, 210, 211, 212, 213, 214, 215, 216, 217, 506, 507, 508, 509, 510, 511, 512, 513, 514, 515, 516, 517, 518, 492, 493, 494, 495, 496, 497, 498, 499, 500, 501, 502, 503, 504, 505, 528] (by decide +kernel) (by decide +kernel)) (goodIn_sub (fun _ h => List.mem_append_left _ (List.mem_append_left _ (List.mem_append_right _ h))) (by decide +kernel))) (goodIn_sub (fun _ h => List.mem_append_left _ (List.mem_append_right _ h)) (by decide +kernel))) (goodIn_sub (fun _ h => List.mem_append_right _ h) (by decide +kernel))
set_option maxRecDepth 20000 in
theorem gL_law_L_leastOf : GoodIn wsL_law (va_wsS RL 127 yL_leastOf wsL_leastOf) := goodIn_app (goodIn_of _ (by decide +kernel)) ggL_law_L_leastOf
set_option maxRecDepth 20000 in
theorem ggL_law_L_winsOf : GoodIn wsL_law wsL_winsOf := goodIn_ca (goodIn_ca (goodIn_ca (goodIn_r _ [220, 101, 5, 221, 222, 223, 2, 224, 17, 225, 226, 227, 16, 228, 229, 168, 169, 170, 133, 230, 231, 106, 107, 108, 109, 110, 111, 112, 113, 114, 115, 116, 117, 118, 22, 21, 119, 120, 121, 20, 122, 123, 124, 125, 126, 127, 128, 56, 57, 129, 130, 131, 132, 134, 135, 136, 137, 40, 138, 139, 140, 141, 142, 143, 144, 38, 145, 48, 146, 147, 148, 149, 53, 150, 151, 152, 153, 154, 155, 156, 157, 158, 159, 160, 161, 162, 163, 164, 165, 166, 54, 167, 171, 172, 173, 174, 175, 176, 177, 178, 179, 43, 42, 180, 181, 182, 183, 184, 185, 186, 187, 188, 189, 190, 191, 192, 39, 193, 194, 195, 196, 197, 198, 199, 200, 201, 202, 203, 204, 55, 205, 206, 207, 208, 209, 210, 211, 212, 213, 214, 215, 216, 232, 492, 493, 494, 495, 496, 497, 498, 499, 500, 501, 502, 503, 504, 505, 506, 507, 508, 509, 510, 511, 512, 513, 514, 515, 516, 517, 518, 528] (by decide +kernel) (by decide +kernel)) (goodIn_sub (fun _ h => List.mem_append_left _ (List.mem_append_left _ (List.mem_append_right _ h))) (by decide +kernel))) (goodIn_sub (fun _ h => List.mem_append_left _ (List.mem_append_right _ h)) (by decide +kernel))) (goodIn_sub (fun _ h => List.mem_append_right _ h) (by decide +kernel))
set_option maxRecDepth 20000 in
theorem gL_law_L_winsOf : GoodIn wsL_law (va_wsS RL 130 yL_winsOf wsL_winsOf) := goodIn_app (goodIn_of _ (by decide +kernel)) ggL_law_L_winsOf
set_option maxRecDepth 20000 in
theorem ggL_law_L_memberOf : GoodIn wsL_law wsL_memberOf := goodIn_ca (goodIn_ca (goodIn_ca (goodIn_r _ [244, 245, 101, 6, 5, 246, 247, 248, 2, 249, 17, 250, 251, 252, 16, 253, 138, 139, 140, 141, 133, 106, 107, 108, 109, 110, 111, 112, 113, 114, 254, 230, 231, 115, 116, 117, 118, 22, 21, 119, 120, 121, 20, 122, 123, 124, 125, 126, 127, 128, 56, 57, 129, 130, 131, 132, 134, 135, 136, 137, 40, 142, 143, 144, 38, 145, 48, 146, 147, 148, 149, 53, 150, 151, 152, 153, 154, 155, 156, 157, 158, 159, 160, 161, 162, 163, 164, 165, 166, 54, 167, 168, 169, 170, 171, 172, 173, 174, 175, 176, 177, 178, 179, 43, 42, 180, 181, 182, 183, 184, 185, 186, 187, 188, 189, 190, 191, 192, 39, 193, 194, 195, 196, 197, 198, 199, 200, 201, 202, 203, 204, 55, 205, 206, 207, 208, 209, 210, 211, 212, 213, 214, 215, 216, 255, 256, 257, 258, 259, 260, 261, 262, 263, 264, 265, 266, 267, 268, 269, 270, 271, 272, 273, 274, 275, 276, 492, 493, 494, 495, 496, 497, 498, 499, 500, 501, 502, 503, 504, 505, 506, 507, 508, 509, 510, 511, 512, 513, 514, 515, 516, 517, 518, 528] (by decide +kernel) (by decide +kernel)) (goodIn_sub (fun _ h => List.mem_append_left _ (List.mem_append_left _ (List.mem_append_right _ h))) (by decide +kernel))) (goodIn_sub (fun _ h => List.mem_append_left _ (List.mem_append_right _ h)) (by decide +kernel))) (goodIn_sub (fun _ h => List.mem_append_right _ h) (by decide +kernel))
set_option maxRecDepth 20000 in
theorem gL_law_L_memberOf : GoodIn wsL_law (va_wsS RL 137 yL_memberOf wsL_memberOf) := goodIn_app (goodIn_of _ (by decide +kernel)) ggL_law_L_memberOf
set_option maxRecDepth 20000 in
theorem ggL_law_L_shareOf : GoodIn wsL_law wsL_shareOf := goodIn_ca (goodIn_ca (goodIn_ca (goodIn_r _ [279, 245, 7, 280, 281, 282, 2, 283, 17, 250, 251, 252, 16, 253, 138, 139, 140, 141, 133, 106, 107, 108, 109, 110, 111, 112, 113, 114, 115, 116, 117, 118, 22, 21, 119, 120, 121, 20, 122, 123, 124, 125, 126, 127, 128, 56, 57, 129, 130, 131, 132, 134, 135, 136, 137, 40, 142, 143, 144, 38, 145, 48, 146, 147, 148, 149, 53, 150, 151, 152, 153, 154, 155, 156, 157, 158, 159, 160, 161, 162, 163, 164, 165, 166, 54, 167, 168, 169, 170, 171, 172, 173, 174, 175, 176, 177, 178, 179, 43, 42, 180, 181, 182, 183, 184, 185, 186, 187, 188, 189, 190, 191, 192, 39, 193, 194, 195, 196, 197, 198, 199, 200, 201, 202, 203, 204, 55, 205, 206, 207, 208, 209, 210, 211, 212, 213, 214, 215, 216, 284, 285, 286, 287, 492, 493, 494, 495, 496, 497, 498, 499, 500, 501, 502, 503, 504, 505, 506, 507, 508, 509, 510, 511, 512, 513, 514, 515, 516, 517, 518, 528] (by decide +kernel) (by decide +kernel)) (goodIn_sub (fun _ h => List.mem_append_left _ (List.mem_append_left _ (List.mem_append_right _ h))) (by decide +kernel))) (goodIn_sub (fun _ h => List.mem_append_left _ (List.mem_append_right _ h)) (by decide +kernel))) (goodIn_sub (fun _ h => List.mem_append_right _ h) (by decide +kernel))
set_option maxRecDepth 20000 in
theorem gL_law_L_shareOf : GoodIn wsL_law (va_wsS RL 140 yL_shareOf wsL_shareOf) := goodIn_app (goodIn_of _ (by decide +kernel)) ggL_law_L_shareOf
set_option maxRecDepth 20000 in
theorem ggL_law_L_partOf : GoodIn wsL_law wsL_partOf := goodIn_ca (goodIn_ca (goodIn_ca (goodIn_r _ [290, 245, 7, 291, 292, 293, 2, 294, 17, 250, 251, 252, 16, 253, 138, 139, 140, 141, 133, 106, 107, 108, 109, 110, 111, 112, 113, 114, 115, 116, 117, 118, 22, 21, 119, 120, 121, 20, 122, 123, 124, 125, 126, 127, 128, 56, 57, 129, 130, 131, 132, 134, 135, 136, 137, 40, 142, 143, 144, 38, 145, 48, 146, 147, 148, 149, 53, 150, 151, 152, 153, 154, 155, 156, 157, 158, 159, 160, 161, 162, 163, 164, 165, 166, 54, 167, 168, 169, 170, 171, 172, 173, 174, 175, 176, 177, 178, 179, 43, 42, 180, 181, 182, 183, 184, 185, 186, 187, 188, 189, 190, 191, 192, 39, 193, 194, 195, 196, 197, 198, 199, 200, 201, 202, 203, 204, 55, 205, 206, 207, 208, 209, 210, 211, 212, 213, 214, 215, 216, 295, 296, 297, 298, 492, 493, 494, 495, 496, 497, 498, 499, 500, 501, 502, 503, 504, 505, 506, 507, 508, 509, 510, 511, 512, 513, 514, 515, 516, 517, 518, 528] (by decide +kernel) (by decide +kernel)) (goodIn_sub (fun _ h => List.mem_append_left _ (List.mem_append_left _ (List.mem_append_right _ h))) (by decide +kernel))) (goodIn_sub (fun _ h => List.mem_append_left _ (List.mem_append_right _ h)) (by decide +kernel))) (goodIn_sub (fun _ h => List.mem_append_right _ h) (by decide +kernel))
set_option maxRecDepth 20000 in
theorem gL_law_L_partOf : GoodIn wsL_law (va_wsS RL 148 yL_partOf wsL_partOf) := goodIn_app (goodIn_of _ (by decide +kernel)) ggL_law_L_partOf
set_option maxRecDepth 20000 in
theorem ggL_law_L_ruleOf : GoodIn wsL_law wsL_ruleOf := goodIn_ca (goodIn_ca (goodIn_ca (goodIn_r _ [301, 245, 101, 6, 5, 302, 303, 304, 2, 305, 17, 306, 307, 308, 16, 309, 175, 106, 107, 108, 109, 110, 111, 112, 113, 114, 254, 230, 231, 310, 311, 312, 313, 42, 43, 142, 143, 144, 38, 145, 48, 229, 168, 169, 170, 133, 176, 177, 178, 179, 180, 181, 182, 183, 184, 185, 186, 187, 188, 492, 493, 494, 495, 496, 497, 498, 499, 500, 501, 502, 503, 504, 505, 528] (by decide +kernel) (by decide +kernel)) (goodIn_sub (fun _ h => List.mem_append_left _ (List.mem_append_left _ (List.mem_append_right _ h))) (by decide +kernel))) (goodIn_sub (fun _ h => List.mem_append_left _ (List.mem_append_right _ h)) (by decide +kernel))) (goodIn_sub (fun _ h => List.mem_append_right _ h) (by decide +kernel))
set_option maxRecDepth 20000 in
theorem gL_law_L_ruleOf : GoodIn wsL_law (va_wsS RL 151 yL_ruleOf wsL_ruleOf) := goodIn_app (goodIn_of _ (by decide +kernel)) ggL_law_L_ruleOf
theorem dL_law_0 : decode cL_law 0 = .ok (.new 10, 3) := by decide +kernel
theorem dL_law_3 : decode cL_law 3 = .ok (.dup, 1) := by decide +kernel
theorem dL_law_4 : decode cL_law 4 = .ok (.invokespecial 157, 3) := by decide +kernel
theorem dL_law_7 : decode cL_law 7 = .ok (.astore_n 1, 1) := by decide +kernel
theorem dL_law_8 : decode cL_law 8 = .ok (.iconst 3, 1) := by decide +kernel
theorem dL_law_9 : decode cL_law 9 = .ok (.newarray .int, 2) := by decide +kernel
theorem dL_law_11 : decode cL_law 11 = .ok (.astore_n 2, 1) := by decide +kernel
theorem dL_law_12 : decode cL_law 12 = .ok (.bipush 8, 2) := by decide +kernel
theorem dL_law_14 : decode cL_law 14 = .ok (.newarray .int, 2) := by decide +kernel
theorem dL_law_16 : decode cL_law 16 = .ok (.astore_n 3, 1) := by decide +kernel
theorem dL_law_17 : decode cL_law 17 = .ok (.bipush 8, 2) := by decide +kernel
theorem dL_law_19 : decode cL_law 19 = .ok (.newarray .int, 2) := by decide +kernel
theorem dL_law_21 : decode cL_law 21 = .ok (.astore 4, 2) := by decide +kernel
theorem dL_law_23 : decode cL_law 23 = .ok (.iconst 4, 1) := by decide +kernel
theorem dL_law_24 : decode cL_law 24 = .ok (.newarray .int, 2) := by decide +kernel
theorem dL_law_26 : decode cL_law 26 = .ok (.astore 5, 2) := by decide +kernel
theorem dL_law_28 : decode cL_law 28 = .ok (.aload_n 2, 1) := by decide +kernel
theorem dL_law_29 : decode cL_law 29 = .ok (.iconst 1, 1) := by decide +kernel
theorem dL_law_30 : decode cL_law 30 = .ok (.iconst 1, 1) := by decide +kernel
theorem dL_law_31 : decode cL_law 31 = .ok (.iastore, 1) := by decide +kernel
theorem dL_law_32 : decode cL_law 32 = .ok (.aload_n 1, 1) := by decide +kernel
theorem dL_law_33 : decode cL_law 33 = .ok (.aload_n 2, 1) := by decide +kernel
theorem dL_law_34 : decode cL_law 34 = .ok (.aload_n 3, 1) := by decide +kernel
theorem dL_law_35 : decode cL_law 35 = .ok (.aload 4, 2) := by decide +kernel
theorem dL_law_37 : decode cL_law 37 = .ok (.aload 5, 2) := by decide +kernel
theorem dL_law_39 : decode cL_law 39 = .ok (.invokestatic 158, 3) := by decide +kernel
theorem dL_law_42 : decode cL_law 42 = .ok (.istore 6, 2) := by decide +kernel
theorem dL_law_44 : decode cL_law 44 = .ok (.iconst 0, 1) := by decide +kernel
theorem dL_law_45 : decode cL_law 45 = .ok (.istore 7, 2) := by decide +kernel
theorem dL_law_47 : decode cL_law 47 = .ok (.iload 7, 2) := by decide +kernel
theorem dL_law_49 : decode cL_law 49 = .ok (.bipush 6, 2) := by decide +kernel
theorem dL_law_51 : decode cL_law 51 = .ok (.if_icmp .ge 57, 3) := by decide +kernel
theorem dL_law_54 : decode cL_law 54 = .ok (.iload 6, 2) := by decide +kernel
theorem dL_law_56 : decode cL_law 56 = .ok (.ifCond .eq 52, 3) := by decide +kernel
theorem dL_law_59 : decode cL_law 59 = .ok (.aload_n 1, 1) := by decide +kernel
theorem dL_law_60 : decode cL_law 60 = .ok (.aload_n 2, 1) := by decide +kernel
theorem dL_law_61 : decode cL_law 61 = .ok (.aload_n 3, 1) := by decide +kernel
theorem dL_law_62 : decode cL_law 62 = .ok (.aload 4, 2) := by decide +kernel
theorem dL_law_64 : decode cL_law 64 = .ok (.aload 5, 2) := by decide +kernel
theorem dL_law_66 : decode cL_law 66 = .ok (.aload_n 0, 1) := by decide +kernel
theorem dL_law_67 : decode cL_law 67 = .ok (.iconst 1, 1) := by decide +kernel
theorem dL_law_68 : decode cL_law 68 = .ok (.iload 7, 2) := by decide +kernel
theorem dL_law_70 : decode cL_law 70 = .ok (.iadd, 1) := by decide +kernel
theorem dL_law_71 : decode cL_law 71 = .ok (.invokestatic 162, 3) := by decide +kernel
theorem dL_law_74 : decode cL_law 74 = .ok (.ldc 8, 2) := by decide +kernel
theorem dL_law_76 : decode cL_law 76 = .ok (.iand, 1) := by decide +kernel
theorem dL_law_77 : decode cL_law 77 = .ok (.sipush 640, 3) := by decide +kernel
theorem dL_law_80 : decode cL_law 80 = .ok (.idiv, 1) := by decide +kernel
theorem dL_law_81 : decode cL_law 81 = .ok (.sipush 640, 3) := by decide +kernel
theorem dL_law_84 : decode cL_law 84 = .ok (.imul, 1) := by decide +kernel
theorem dL_law_85 : decode cL_law 85 = .ok (.iload 7, 2) := by decide +kernel
theorem dL_law_87 : decode cL_law 87 = .ok (.iconst 5, 1) := by decide +kernel
theorem dL_law_88 : decode cL_law 88 = .ok (.if_icmp .ge 7, 3) := by decide +kernel
theorem dL_law_91 : decode cL_law 91 = .ok (.iconst 0, 1) := by decide +kernel
theorem dL_law_92 : decode cL_law 92 = .ok (.goto 4, 3) := by decide +kernel
theorem dL_law_95 : decode cL_law 95 = .ok (.iconst 5, 1) := by decide +kernel
theorem dL_law_96 : decode cL_law 96 = .ok (.iadd, 1) := by decide +kernel
theorem dL_law_97 : decode cL_law 97 = .ok (.invokestatic 166, 3) := by decide +kernel
theorem dL_law_100 : decode cL_law 100 = .ok (.istore 6, 2) := by decide +kernel
theorem dL_law_102 : decode cL_law 102 = .ok (.iinc 7 1, 3) := by decide +kernel
theorem dL_law_105 : decode cL_law 105 = .ok (.goto (-58), 3) := by decide +kernel
theorem dL_law_108 : decode cL_law 108 = .ok (.bipush 6, 2) := by decide +kernel
theorem dL_law_110 : decode cL_law 110 = .ok (.aload_n 0, 1) := by decide +kernel
theorem dL_law_111 : decode cL_law 111 = .ok (.iconst 0, 1) := by decide +kernel
theorem dL_law_112 : decode cL_law 112 = .ok (.invokestatic 162, 3) := by decide +kernel
theorem dL_law_115 : decode cL_law 115 = .ok (.bipush 40, 2) := by decide +kernel
theorem dL_law_117 : decode cL_law 117 = .ok (.invokestatic 68, 3) := by decide +kernel
theorem dL_law_120 : decode cL_law 120 = .ok (.iadd, 1) := by decide +kernel
theorem dL_law_121 : decode cL_law 121 = .ok (.istore 7, 2) := by decide +kernel
theorem dL_law_123 : decode cL_law 123 = .ok (.iconst 0, 1) := by decide +kernel
theorem dL_law_124 : decode cL_law 124 = .ok (.istore 8, 2) := by decide +kernel
theorem dL_law_126 : decode cL_law 126 = .ok (.iload 8, 2) := by decide +kernel
theorem dL_law_128 : decode cL_law 128 = .ok (.iload 7, 2) := by decide +kernel
theorem dL_law_130 : decode cL_law 130 = .ok (.if_icmp .ge 63, 3) := by decide +kernel
theorem dL_law_133 : decode cL_law 133 = .ok (.iload 6, 2) := by decide +kernel
theorem dL_law_135 : decode cL_law 135 = .ok (.ifCond .eq 58, 3) := by decide +kernel
theorem dL_law_138 : decode cL_law 138 = .ok (.aload_n 1, 1) := by decide +kernel
theorem dL_law_139 : decode cL_law 139 = .ok (.aload_n 2, 1) := by decide +kernel
theorem dL_law_140 : decode cL_law 140 = .ok (.aload_n 3, 1) := by decide +kernel
theorem dL_law_141 : decode cL_law 141 = .ok (.aload 4, 2) := by decide +kernel
theorem dL_law_143 : decode cL_law 143 = .ok (.aload 5, 2) := by decide +kernel
theorem dL_law_145 : decode cL_law 145 = .ok (.aload_n 0, 1) := by decide +kernel
theorem dL_law_146 : decode cL_law 146 = .ok (.bipush 7, 2) := by decide +kernel
theorem dL_law_148 : decode cL_law 148 = .ok (.iload 8, 2) := by decide +kernel
theorem dL_law_150 : decode cL_law 150 = .ok (.iadd, 1) := by decide +kernel
theorem dL_law_151 : decode cL_law 151 = .ok (.invokestatic 162, 3) := by decide +kernel
theorem dL_law_154 : decode cL_law 154 = .ok (.sipush 7919, 3) := by decide +kernel
theorem dL_law_157 : decode cL_law 157 = .ok (.iload 8, 2) := by decide +kernel
theorem dL_law_159 : decode cL_law 159 = .ok (.imul, 1) := by decide +kernel
theorem dL_law_160 : decode cL_law 160 = .ok (.ixor, 1) := by decide +kernel
theorem dL_law_161 : decode cL_law 161 = .ok (.invokestatic 166, 3) := by decide +kernel
theorem dL_law_164 : decode cL_law 164 = .ok (.ifCond .eq 20, 3) := by decide +kernel
theorem dL_law_167 : decode cL_law 167 = .ok (.aload_n 1, 1) := by decide +kernel
theorem dL_law_168 : decode cL_law 168 = .ok (.aload_n 2, 1) := by decide +kernel
theorem dL_law_169 : decode cL_law 169 = .ok (.aload_n 3, 1) := by decide +kernel
theorem dL_law_170 : decode cL_law 170 = .ok (.aload 4, 2) := by decide +kernel
theorem dL_law_172 : decode cL_law 172 = .ok (.aload 5, 2) := by decide +kernel
theorem dL_law_174 : decode cL_law 174 = .ok (.invokestatic 158, 3) := by decide +kernel
theorem dL_law_177 : decode cL_law 177 = .ok (.ifCond .eq 7, 3) := by decide +kernel
theorem dL_law_180 : decode cL_law 180 = .ok (.iconst 1, 1) := by decide +kernel
theorem dL_law_181 : decode cL_law 181 = .ok (.goto 4, 3) := by decide +kernel
theorem dL_law_184 : decode cL_law 184 = .ok (.iconst 0, 1) := by decide +kernel
theorem dL_law_185 : decode cL_law 185 = .ok (.istore 6, 2) := by decide +kernel
theorem dL_law_187 : decode cL_law 187 = .ok (.iinc 8 1, 3) := by decide +kernel
theorem dL_law_190 : decode cL_law 190 = .ok (.goto (-64), 3) := by decide +kernel
theorem dL_law_193 : decode cL_law 193 = .ok (.iload 6, 2) := by decide +kernel
theorem dL_law_195 : decode cL_law 195 = .ok (.ifCond .eq 102, 3) := by decide +kernel
theorem dL_law_198 : decode cL_law 198 = .ok (.aload_n 1, 1) := by decide +kernel
theorem dL_law_199 : decode cL_law 199 = .ok (.bipush 12, 2) := by decide +kernel
theorem dL_law_201 : decode cL_law 201 = .ok (.invokestatic 154, 3) := by decide +kernel
theorem dL_law_204 : decode cL_law 204 = .ok (.ldc 17, 2) := by decide +kernel
theorem dL_law_206 : decode cL_law 206 = .ok (.if_icmp .ne 91, 3) := by decide +kernel
theorem dL_law_209 : decode cL_law 209 = .ok (.aload_n 1, 1) := by decide +kernel
theorem dL_law_210 : decode cL_law 210 = .ok (.iconst (-1), 1) := by decide +kernel
theorem dL_law_211 : decode cL_law 211 = .ok (.invokestatic 154, 3) := by decide +kernel
theorem dL_law_214 : decode cL_law 214 = .ok (.ldc 17, 2) := by decide +kernel
theorem dL_law_216 : decode cL_law 216 = .ok (.if_icmp .ne 81, 3) := by decide +kernel
theorem dL_law_219 : decode cL_law 219 = .ok (.aload_n 1, 1) := by decide +kernel
theorem dL_law_220 : decode cL_law 220 = .ok (.iconst (-1), 1) := by decide +kernel
theorem dL_law_221 : decode cL_law 221 = .ok (.invokestatic 127, 3) := by decide +kernel
theorem dL_law_224 : decode cL_law 224 = .ok (.ldc 17, 2) := by decide +kernel
theorem dL_law_226 : decode cL_law 226 = .ok (.if_icmp .ne 71, 3) := by decide +kernel
theorem dL_law_229 : decode cL_law 229 = .ok (.aload_n 1, 1) := by decide +kernel
theorem dL_law_230 : decode cL_law 230 = .ok (.sipush 256, 3) := by decide +kernel
theorem dL_law_233 : decode cL_law 233 = .ok (.invokestatic 130, 3) := by decide +kernel
theorem dL_law_236 : decode cL_law 236 = .ok (.ldc 17, 2) := by decide +kernel
theorem dL_law_238 : decode cL_law 238 = .ok (.if_icmp .ne 59, 3) := by decide +kernel
theorem dL_law_241 : decode cL_law 241 = .ok (.aload_n 1, 1) := by decide +kernel
theorem dL_law_242 : decode cL_law 242 = .ok (.aload_n 2, 1) := by decide +kernel
theorem dL_law_243 : decode cL_law 243 = .ok (.iconst 0, 1) := by decide +kernel
theorem dL_law_244 : decode cL_law 244 = .ok (.iaload, 1) := by decide +kernel
theorem dL_law_245 : decode cL_law 245 = .ok (.iconst 0, 1) := by decide +kernel
theorem dL_law_246 : decode cL_law 246 = .ok (.invokestatic 137, 3) := by decide +kernel
theorem dL_law_249 : decode cL_law 249 = .ok (.ldc 27, 2) := by decide +kernel
theorem dL_law_251 : decode cL_law 251 = .ok (.if_icmp .ne 46, 3) := by decide +kernel
theorem dL_law_254 : decode cL_law 254 = .ok (.aload_n 1, 1) := by decide +kernel
theorem dL_law_255 : decode cL_law 255 = .ok (.aload_n 2, 1) := by decide +kernel
theorem dL_law_256 : decode cL_law 256 = .ok (.iconst 0, 1) := by decide +kernel
theorem dL_law_257 : decode cL_law 257 = .ok (.iaload, 1) := by decide +kernel
theorem dL_law_258 : decode cL_law 258 = .ok (.invokestatic 140, 3) := by decide +kernel
theorem dL_law_261 : decode cL_law 261 = .ok (.ldc2_w 113, 3) := by decide +kernel
theorem dL_law_264 : decode cL_law 264 = .ok (.dcmp .l, 1) := by decide +kernel
theorem dL_law_265 : decode cL_law 265 = .ok (.ifCond .ne 32, 3) := by decide +kernel
theorem dL_law_268 : decode cL_law 268 = .ok (.aload_n 1, 1) := by decide +kernel
theorem dL_law_269 : decode cL_law 269 = .ok (.iconst (-1), 1) := by decide +kernel
theorem dL_law_270 : decode cL_law 270 = .ok (.invokestatic 148, 3) := by decide +kernel
theorem dL_law_273 : decode cL_law 273 = .ok (.ldc2_w 113, 3) := by decide +kernel
theorem dL_law_276 : decode cL_law 276 = .ok (.dcmp .l, 1) := by decide +kernel
theorem dL_law_277 : decode cL_law 277 = .ok (.ifCond .ne 20, 3) := by decide +kernel
theorem dL_law_280 : decode cL_law 280 = .ok (.aload_n 1, 1) := by decide +kernel
theorem dL_law_281 : decode cL_law 281 = .ok (.aload_n 2, 1) := by decide +kernel
theorem dL_law_282 : decode cL_law 282 = .ok (.iconst 2, 1) := by decide +kernel
theorem dL_law_283 : decode cL_law 283 = .ok (.iaload, 1) := by decide +kernel
theorem dL_law_284 : decode cL_law 284 = .ok (.iconst 0, 1) := by decide +kernel
theorem dL_law_285 : decode cL_law 285 = .ok (.invokestatic 151, 3) := by decide +kernel
theorem dL_law_288 : decode cL_law 288 = .ok (.ldc 27, 2) := by decide +kernel
theorem dL_law_290 : decode cL_law 290 = .ok (.if_icmp .ne 7, 3) := by decide +kernel
theorem dL_law_293 : decode cL_law 293 = .ok (.iconst 1, 1) := by decide +kernel
theorem dL_law_294 : decode cL_law 294 = .ok (.goto 4, 3) := by decide +kernel
theorem dL_law_297 : decode cL_law 297 = .ok (.iconst 0, 1) := by decide +kernel
theorem dL_law_298 : decode cL_law 298 = .ok (.ireturn, 1) := by decide +kernel
