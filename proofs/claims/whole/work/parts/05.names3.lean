theorem dX7_rule_8 : decode cX7_rule 8 = .ok (.invokestatic 79, 3) := by decide +kernel
theorem dX7_rule_11 : decode cX7_rule 11 = .ok (.iload_n 2, 1) := by decide +kernel
theorem dX7_rule_12 : decode cX7_rule 12 = .ok (.iconst 0, 1) := by decide +kernel
theorem dX7_rule_13 : decode cX7_rule 13 = .ok (.iconst 2, 1) := by decide +kernel
theorem dX7_rule_14 : decode cX7_rule 14 = .ok (.invokestatic 83, 3) := by decide +kernel
theorem dX7_rule_17 : decode cX7_rule 17 = .ok (.invokestatic 79, 3) := by decide +kernel
theorem dX7_rule_20 : decode cX7_rule 20 = .ok (.aload_n 0, 1) := by decide +kernel
theorem dX7_rule_21 : decode cX7_rule 21 = .ok (.getfield 10, 3) := by decide +kernel
theorem dX7_rule_24 : decode cX7_rule 24 = .ok (.iload_n 1, 1) := by decide +kernel
theorem dX7_rule_25 : decode cX7_rule 25 = .ok (.iload_n 2, 1) := by decide +kernel
theorem dX7_rule_26 : decode cX7_rule 26 = .ok (.invokevirtual 98, 3) := by decide +kernel
theorem dX7_rule_29 : decode cX7_rule 29 = .ok (.ireturn, 1) := by decide +kernel
set_option maxRecDepth 20000 in
theorem ggX7_whole_X7_faultOfRange : GoodIn wsX7_whole wsX7_faultOfRange := goodIn_r _ [4] (by decide +kernel) (by decide +kernel)
set_option maxRecDepth 20000 in
theorem gX7_whole_X7_faultOfRange : GoodIn wsX7_whole (va_wsS RX7 83 yX7_faultOfRange wsX7_faultOfRange) := goodIn_app (goodIn_of _ (by decide +kernel)) ggX7_whole_X7_faultOfRange
set_option maxRecDepth 20000 in
theorem ggX7_whole_X7_refuse : GoodIn wsX7_whole wsX7_refuse := goodIn_ca (goodIn_ca (goodIn_ca (goodIn_r _ [7, 8, 9, 10, 11, 12, 13] (by decide +kernel) (by decide +kernel)) (goodIn_sub (fun _ h => List.mem_cons_of_mem _ (List.mem_append_left _ (List.mem_append_left _ (List.mem_append_right _ h)))) (by decide +kernel))) (goodIn_sub (fun _ h => List.mem_cons_of_mem _ (List.mem_append_left _ (List.mem_append_right _ h))) (by decide +kernel))) (goodIn_sub (fun _ h => List.mem_cons_of_mem _ (List.mem_append_right _ h)) (by decide +kernel))
set_option maxRecDepth 20000 in
theorem gX7_whole_X7_refuse : GoodIn wsX7_whole (va_wsS RX7 79 yX7_refuse wsX7_refuse) := goodIn_app (goodIn_of _ (by decide +kernel)) ggX7_whole_X7_refuse
set_option maxRecDepth 20000 in
theorem ggX7_whole_X7_measured : GoodIn wsX7_whole wsX7_measured := goodIn_r _ [17, 18, 19, 20, 21, 22, 23, 24, 25, 26, 27, 28, 29, 30, 31, 32, 33, 34, 35, 36, 37, 38, 39, 40, 41, 42, 43, 44, 45, 46, 47, 48, 49, 50, 51, 52, 53, 54, 55, 56, 57, 58, 59, 60, 61, 62, 63, 64, 65, 66, 67, 68, 69, 70, 71, 72, 73, 74, 75, 76, 77, 78, 79, 80, 81, 82, 83, 84, 85, 86, 87, 88, 89, 90, 91, 92, 93, 94, 95, 96, 97, 98, 99, 100, 3, 101, 102, 103, 104, 105, 106, 107, 108, 109, 110, 111, 112, 113, 114, 115, 116, 117, 118, 119, 120, 121, 122, 123, 124, 125, 126, 127, 128, 129, 130, 131, 161, 162, 163, 164, 165, 166, 167, 168, 169, 170, 171, 172, 173, 174, 175, 176, 177, 178, 179, 180, 181, 182, 183, 184, 185, 186, 187, 188] (by decide +kernel) (by decide +kernel)
set_option maxRecDepth 20000 in
theorem gX7_whole_X7_measured : GoodIn wsX7_whole (wsV RX7 87 RX7 yX7_measured wsX7_measured) := goodIn_app (goodIn_of _ (by decide +kernel)) ggX7_whole_X7_measured
set_option maxRecDepth 20000 in
theorem ggX7_whole_X7_wholeValue : GoodIn wsX7_whole wsX7_wholeValue := goodIn_r _ [135, 136, 20, 137, 138, 139, 37, 140, 39, 141, 86, 142, 35, 36, 38, 40, 41, 42, 43, 44, 45, 46, 47, 48, 49, 50, 51, 52, 53, 54, 93, 94, 95, 96, 97, 98, 99, 143, 79, 80, 81, 144, 103, 104, 105, 106, 100, 3, 101, 145, 146, 147, 148, 92, 149, 150, 151, 24, 152, 28, 30, 31, 153, 154, 155, 156, 26, 32, 68, 157, 158, 159, 160, 29, 161, 162, 163, 164, 165, 166, 167, 189, 190, 191, 192, 193, 194, 181, 182, 183, 184, 185, 186, 187, 188, 168, 169, 170, 171, 172, 173, 174, 175, 176, 177, 178, 179, 180] (by decide +kernel) (by decide +kernel)
set_option maxRecDepth 20000 in
theorem gX7_whole_X7_wholeValue : GoodIn wsX7_whole (wsV RX7 102 RX7 yX7_wholeValue wsX7_wholeValue) := goodIn_app (goodIn_of _ (by decide +kernel)) ggX7_whole_X7_wholeValue
theorem dX7_whole_0 : decode cX7_whole 0 = .ok (.iload_n 1, 1) := by decide +kernel
theorem dX7_whole_1 : decode cX7_whole 1 = .ok (.iconst 0, 1) := by decide +kernel
theorem dX7_whole_2 : decode cX7_whole 2 = .ok (.bipush 11, 2) := by decide +kernel
theorem dX7_whole_4 : decode cX7_whole 4 = .ok (.invokestatic 83, 3) := by decide +kernel
theorem dX7_whole_7 : decode cX7_whole 7 = .ok (.invokestatic 79, 3) := by decide +kernel
theorem dX7_whole_10 : decode cX7_whole 10 = .ok (.aload_n 0, 1) := by decide +kernel
theorem dX7_whole_11 : decode cX7_whole 11 = .ok (.aload_n 0, 1) := by decide +kernel
theorem dX7_whole_12 : decode cX7_whole 12 = .ok (.invokevirtual 87, 3) := by decide +kernel
theorem dX7_whole_15 : decode cX7_whole 15 = .ok (.iload_n 1, 1) := by decide +kernel
theorem dX7_whole_16 : decode cX7_whole 16 = .ok (.invokevirtual 102, 3) := by decide +kernel
theorem dX7_whole_19 : decode cX7_whole 19 = .ok (.ireturn, 1) := by decide +kernel
set_option maxRecDepth 20000 in
theorem ggX7_wins_X6_faultOfSet : GoodIn wsX7_wins wsX6_faultOfSet := goodIn_r _ [6, 7, 8, 9, 5, 10, 11, 12, 13, 14, 144, 145, 146, 147, 148, 149, 150] (by decide +kernel) (by decide +kernel)
set_option maxRecDepth 20000 in
theorem gX7_wins_X6_faultOfSet : GoodIn wsX7_wins (wsV RX7 106 RX6 yX6_faultOfSet wsX6_faultOfSet) := goodIn_app (goodIn_of _ (by decide +kernel)) ggX7_wins_X6_faultOfSet
set_option maxRecDepth 20000 in
theorem ggX7_wins_X7_refuse : GoodIn wsX7_wins wsX7_refuse := goodIn_ca (goodIn_ca (goodIn_ca (goodIn_r _ [17, 18, 19, 20, 21, 22, 23] (by decide +kernel) (by decide +kernel)) (goodIn_sub (fun _ h => List.mem_cons_of_mem _ (List.mem_append_left _ (List.mem_append_left _ (List.mem_append_right _ h)))) (by decide +kernel))) (goodIn_sub (fun _ h => List.mem_cons_of_mem _ (List.mem_append_left _ (List.mem_append_right _ h))) (by decide +kernel))) (goodIn_sub (fun _ h => List.mem_cons_of_mem _ (List.mem_append_right _ h)) (by decide +kernel))
set_option maxRecDepth 20000 in
theorem gX7_wins_X7_refuse : GoodIn wsX7_wins (va_wsS RX7 79 yX7_refuse wsX7_refuse) := goodIn_app (goodIn_of _ (by decide +kernel)) ggX7_wins_X7_refuse
set_option maxRecDepth 20000 in
theorem ggX7_wins_X7_measured : GoodIn wsX7_wins wsX7_measured := goodIn_r _ [27, 28, 29, 1, 30, 31, 32, 33, 34, 35, 36, 37, 38, 39, 40, 41, 42, 43, 44, 45, 5, 46, 11, 47, 48, 49, 50, 51, 52, 53, 54, 55, 56, 57, 58, 59, 60, 61, 62, 63, 64, 65, 66, 67, 68, 69, 70, 71, 72, 73, 74, 75, 76, 77, 78, 79, 80, 81, 82, 83, 84, 85, 8, 9, 10, 86, 87, 88, 89, 90, 91, 92, 93, 94, 95, 96, 97, 98, 99, 100, 101, 102, 103, 104, 13, 105, 106, 107, 108, 109, 110, 111, 112, 113, 114, 115, 116, 117, 118, 119, 120, 121, 122, 123, 124, 125, 126, 127, 128, 129, 130, 131, 132, 133, 134, 135, 137, 138, 139, 140, 141, 142, 143, 151, 152, 153, 154, 155, 156, 157, 158, 159, 160, 161, 162, 163, 144, 145, 146, 147, 148, 149, 150, 164] (by decide +kernel) (by decide +kernel)
set_option maxRecDepth 20000 in
theorem gX7_wins_X7_measured : GoodIn wsX7_wins (wsV RX7 87 RX7 yX7_measured wsX7_measured) := goodIn_app (goodIn_of _ (by decide +kernel)) ggX7_wins_X7_measured
set_option maxRecDepth 20000 in
theorem ggX7_wins_X3_isWinning : GoodIn wsX7_wins wsX3_isWinning := goodIn_r _ [118, 84, 36, 75, 57, 58, 59, 60, 61, 151, 152, 153, 154, 155, 156, 157, 158, 159, 160, 161, 162, 163, 164] (by decide +kernel) (by decide +kernel)
set_option maxRecDepth 20000 in
theorem gX7_wins_X3_isWinning : GoodIn wsX7_wins (wsV RX7 109 RX3 yX3_isWinning wsX3_isWinning) := goodIn_app (goodIn_of _ (by decide +kernel)) ggX7_wins_X3_isWinning
theorem dX7_wins_0 : decode cX7_wins 0 = .ok (.aload_n 0, 1) := by decide +kernel
theorem dX7_wins_1 : decode cX7_wins 1 = .ok (.getfield 10, 3) := by decide +kernel
theorem dX7_wins_4 : decode cX7_wins 4 = .ok (.iload_n 1, 1) := by decide +kernel
theorem dX7_wins_5 : decode cX7_wins 5 = .ok (.invokevirtual 106, 3) := by decide +kernel
theorem dX7_wins_8 : decode cX7_wins 8 = .ok (.invokestatic 79, 3) := by decide +kernel
theorem dX7_wins_11 : decode cX7_wins 11 = .ok (.aload_n 0, 1) := by decide +kernel
theorem dX7_wins_12 : decode cX7_wins 12 = .ok (.invokevirtual 87, 3) := by decide +kernel
theorem dX7_wins_15 : decode cX7_wins 15 = .ok (.iload_n 1, 1) := by decide +kernel
theorem dX7_wins_16 : decode cX7_wins 16 = .ok (.invokevirtual 109, 3) := by decide +kernel
theorem dX7_wins_19 : decode cX7_wins 19 = .ok (.ifCond .eq 7, 3) := by decide +kernel
theorem dX7_wins_22 : decode cX7_wins 22 = .ok (.iconst 1, 1) := by decide +kernel
theorem dX7_wins_23 : decode cX7_wins 23 = .ok (.goto 4, 3) := by decide +kernel
theorem dX7_wins_26 : decode cX7_wins 26 = .ok (.iconst 0, 1) := by decide +kernel
theorem dX7_wins_27 : decode cX7_wins 27 = .ok (.ireturn, 1) := by decide +kernel
set_option maxRecDepth 20000 in
theorem ggX7_least_X7_refuse : GoodIn wsX7_least wsX7_refuse := goodIn_ca (goodIn_ca (goodIn_ca (goodIn_r _ [4, 5, 6, 7, 8, 9, 10] (by decide +kernel) (by decide +kernel)) (goodIn_sub (fun _ h => List.mem_cons_of_mem _ (List.mem_append_left _ (List.mem_append_left _ (List.mem_append_right _ h)))) (by decide +kernel))) (goodIn_sub (fun _ h => List.mem_cons_of_mem _ (List.mem_append_left _ (List.mem_append_right _ h))) (by decide +kernel))) (goodIn_sub (fun _ h => List.mem_cons_of_mem _ (List.mem_append_right _ h)) (by decide +kernel))
set_option maxRecDepth 20000 in
theorem gX7_least_X7_refuse : GoodIn wsX7_least (va_wsS RX7 79 yX7_refuse wsX7_refuse) := goodIn_app (goodIn_of _ (by decide +kernel)) ggX7_least_X7_refuse
set_option maxRecDepth 20000 in
theorem ggX7_least_X7_measured : GoodIn wsX7_least wsX7_measured := goodIn_r _ [14, 15, 16, 17, 18, 19, 20, 21, 22, 23, 24, 25, 26, 27, 28, 29, 30, 31, 32, 33, 34, 35, 36, 37, 38, 39, 40, 41, 42, 43, 44, 45, 46, 47, 48, 49, 50, 51, 52, 53, 54, 55, 56, 57, 58, 59, 60, 61, 62, 63, 64, 65, 66, 67, 68, 69, 70, 71, 72, 73, 74, 75, 76, 77, 78, 79, 80, 81, 82, 83, 84, 85, 86, 87, 88, 89, 90, 91, 92, 93, 94, 95, 96, 97, 3, 98, 99, 100, 101, 102, 103, 104, 105, 106, 107, 108, 109, 110, 111, 112, 113, 114, 115, 116, 117, 118, 119, 120, 121, 122, 123, 124, 125, 126, 127, 128, 143, 144, 145, 146, 147, 148, 149, 130, 131, 132, 133, 134, 135, 136, 137, 138, 139, 140, 141, 142, 150, 151, 152, 153, 154, 155, 156, 157] (by decide +kernel) (by decide +kernel)
set_option maxRecDepth 20000 in
theorem gX7_least_X7_measured : GoodIn wsX7_least (wsV RX7 87 RX7 yX7_measured wsX7_measured) := goodIn_app (goodIn_of _ (by decide +kernel)) ggX7_least_X7_measured
set_option maxRecDepth 20000 in
theorem ggX7_least_X4_at : GoodIn wsX7_least wsX4_at := goodIn_r _ [50, 51, 157] (by decide +kernel) (by decide +kernel)
set_option maxRecDepth 20000 in
theorem gX7_least_X4_at : GoodIn wsX7_least (wsV RX7 121 RX4 yX4_at wsX4_at) := goodIn_app (goodIn_of _ (by decide +kernel)) ggX7_least_X4_at
theorem dX7_least_0 : decode cX7_least 0 = .ok (.iload_n 1, 1) := by decide +kernel
theorem dX7_least_1 : decode cX7_least 1 = .ok (.ifCond .ge 7, 3) := by decide +kernel
theorem dX7_least_4 : decode cX7_least 4 = .ok (.iconst 2, 1) := by decide +kernel
theorem dX7_least_5 : decode cX7_least 5 = .ok (.goto 4, 3) := by decide +kernel
theorem dX7_least_8 : decode cX7_least 8 = .ok (.iconst 0, 1) := by decide +kernel
theorem dX7_least_9 : decode cX7_least 9 = .ok (.invokestatic 79, 3) := by decide +kernel
theorem dX7_least_12 : decode cX7_least 12 = .ok (.aload_n 0, 1) := by decide +kernel
theorem dX7_least_13 : decode cX7_least 13 = .ok (.invokevirtual 87, 3) := by decide +kernel
theorem dX7_least_16 : decode cX7_least 16 = .ok (.astore_n 2, 1) := by decide +kernel
theorem dX7_least_17 : decode cX7_least 17 = .ok (.iload_n 1, 1) := by decide +kernel
theorem dX7_least_18 : decode cX7_least 18 = .ok (.aload_n 2, 1) := by decide +kernel
theorem dX7_least_19 : decode cX7_least 19 = .ok (.getfield 113, 3) := by decide +kernel
theorem dX7_least_22 : decode cX7_least 22 = .ok (.if_icmp .ge 14, 3) := by decide +kernel
theorem dX7_least_25 : decode cX7_least 25 = .ok (.aload_n 2, 1) := by decide +kernel
theorem dX7_least_26 : decode cX7_least 26 = .ok (.getfield 117, 3) := by decide +kernel
theorem dX7_least_29 : decode cX7_least 29 = .ok (.iload_n 1, 1) := by decide +kernel
theorem dX7_least_30 : decode cX7_least 30 = .ok (.invokevirtual 121, 3) := by decide +kernel
theorem dX7_least_33 : decode cX7_least 33 = .ok (.goto 4, 3) := by decide +kernel
theorem dX7_least_36 : decode cX7_least 36 = .ok (.iconst (-1), 1) := by decide +kernel
theorem dX7_least_37 : decode cX7_least 37 = .ok (.ireturn, 1) := by decide +kernel
set_option maxRecDepth 20000 in
theorem ggX7_share_X6_faultOfMember : GoodIn wsX7_share wsX6_faultOfMember := goodIn_r _ [6, 7, 8, 9, 5, 10, 11, 144, 145, 146, 147, 148, 149, 150] (by decide +kernel) (by decide +kernel)
set_option maxRecDepth 20000 in
theorem gX7_share_X6_faultOfMember : GoodIn wsX7_share (wsV RX7 75 RX6 yX6_faultOfMember wsX6_faultOfMember) := goodIn_app (goodIn_of _ (by decide +kernel)) ggX7_share_X6_faultOfMember
set_option maxRecDepth 20000 in
theorem ggX7_share_X7_refuse : GoodIn wsX7_share wsX7_refuse := goodIn_ca (goodIn_ca (goodIn_ca (goodIn_r _ [15, 16, 17, 18, 19, 20, 21] (by decide +kernel) (by decide +kernel)) (goodIn_sub (fun _ h => List.mem_cons_of_mem _ (List.mem_append_left _ (List.mem_append_left _ (List.mem_append_right _ h)))) (by decide +kernel))) (goodIn_sub (fun _ h => List.mem_cons_of_mem _ (List.mem_append_left _ (List.mem_append_right _ h))) (by decide +kernel))) (goodIn_sub (fun _ h => List.mem_cons_of_mem _ (List.mem_append_right _ h)) (by decide +kernel))
set_option maxRecDepth 20000 in
theorem gX7_share_X7_refuse : GoodIn wsX7_share (va_wsS RX7 79 yX7_refuse wsX7_refuse) := goodIn_app (goodIn_of _ (by decide +kernel)) ggX7_share_X7_refuse
set_option maxRecDepth 20000 in
theorem ggX7_share_X7_measured : GoodIn wsX7_share wsX7_measured := goodIn_r _ [25, 26, 27, 1, 28, 29, 30, 31, 32, 33, 34, 35, 36, 37, 38, 39, 40, 41, 42, 43, 5, 44, 11, 45, 46, 47, 48, 49, 7, 8, 9, 10, 50, 51, 52, 53, 54, 55, 56, 57, 58, 59, 60, 61, 62, 63, 64, 65, 66, 67, 68, 69, 70, 71, 72, 73, 74, 75, 76, 77, 78, 79, 80, 81, 82, 83, 84, 85, 86, 87, 88, 89, 90, 91, 92, 93, 94, 95, 96, 97, 98, 99, 100, 101, 14, 102, 103, 104, 105, 106, 107, 108, 109, 110, 111, 112, 113, 114, 115, 116, 117, 118, 119, 120, 121, 122, 123, 124, 125, 126, 127, 128, 129, 130, 131, 132, 137, 138, 139, 140, 141, 142, 143, 151, 152, 153, 154, 155, 156, 157, 158, 159, 160, 161, 162, 163, 144, 145, 146, 147, 148, 149, 150, 164] (by decide +kernel) (by decide +kernel)
set_option maxRecDepth 20000 in
theorem gX7_share_X7_measured : GoodIn wsX7_share (wsV RX7 87 RX7 yX7_measured wsX7_measured) := goodIn_app (goodIn_of _ (by decide +kernel)) ggX7_share_X7_measured
set_option maxRecDepth 20000 in
theorem ggX7_share_X3_shareOf : GoodIn wsX7_share wsX3_shareOf := goodIn_r _ [136, 38, 39, 69, 51, 52, 53, 54, 55, 151, 152, 153, 154, 155, 156, 157, 158, 159, 160, 161, 162, 163, 164] (by decide +kernel) (by decide +kernel)
set_option maxRecDepth 20000 in
theorem gX7_share_X3_shareOf : GoodIn wsX7_share (wsV RX7 126 RX3 yX3_shareOf wsX3_shareOf) := goodIn_app (goodIn_of _ (by decide +kernel)) ggX7_share_X3_shareOf
theorem dX7_share_0 : decode cX7_share 0 = .ok (.aload_n 0, 1) := by decide +kernel
theorem dX7_share_1 : decode cX7_share 1 = .ok (.getfield 10, 3) := by decide +kernel
theorem dX7_share_4 : decode cX7_share 4 = .ok (.iload_n 1, 1) := by decide +kernel
theorem dX7_share_5 : decode cX7_share 5 = .ok (.invokevirtual 75, 3) := by decide +kernel
theorem dX7_share_8 : decode cX7_share 8 = .ok (.invokestatic 79, 3) := by decide +kernel
theorem dX7_share_11 : decode cX7_share 11 = .ok (.aload_n 0, 1) := by decide +kernel
theorem dX7_share_12 : decode cX7_share 12 = .ok (.invokevirtual 87, 3) := by decide +kernel
theorem dX7_share_15 : decode cX7_share 15 = .ok (.iload_n 1, 1) := by decide +kernel
theorem dX7_share_16 : decode cX7_share 16 = .ok (.invokevirtual 126, 3) := by decide +kernel
theorem dX7_share_19 : decode cX7_share 19 = .ok (.freturn, 1) := by decide +kernel
set_option maxRecDepth 20000 in
theorem ggX7_part_X6_faultOfMember : GoodIn wsX7_part wsX6_faultOfMember := goodIn_r _ [6, 7, 8, 9, 5, 10, 11, 144, 145, 146, 147, 148, 149, 150] (by decide +kernel) (by decide +kernel)
set_option maxRecDepth 20000 in
theorem gX7_part_X6_faultOfMember : GoodIn wsX7_part (wsV RX7 75 RX6 yX6_faultOfMember wsX6_faultOfMember) := goodIn_app (goodIn_of _ (by decide +kernel)) ggX7_part_X6_faultOfMember
set_option maxRecDepth 20000 in
theorem ggX7_part_X7_refuse : GoodIn wsX7_part wsX7_refuse := goodIn_ca (goodIn_ca (goodIn_ca (goodIn_r _ [15, 16, 17, 18, 19, 20, 21] (by decide +kernel) (by decide +kernel)) (goodIn_sub (fun _ h => List.mem_cons_of_mem _ (List.mem_append_left _ (List.mem_append_left _ (List.mem_append_right _ h)))) (by decide +kernel))) (goodIn_sub (fun _ h => List.mem_cons_of_mem _ (List.mem_append_left _ (List.mem_append_right _ h))) (by decide +kernel))) (goodIn_sub (fun _ h => List.mem_cons_of_mem _ (List.mem_append_right _ h)) (by decide +kernel))
set_option maxRecDepth 20000 in
theorem gX7_part_X7_refuse : GoodIn wsX7_part (va_wsS RX7 79 yX7_refuse wsX7_refuse) := goodIn_app (goodIn_of _ (by decide +kernel)) ggX7_part_X7_refuse
set_option maxRecDepth 20000 in
theorem ggX7_part_X7_measured : GoodIn wsX7_part wsX7_measured := goodIn_r _ [25, 26, 27, 1, 28, 29, 30, 31, 32, 33, 34, 35, 36, 37, 38, 39, 40, 41, 42, 43, 5, 44, 11, 45, 46, 47, 48, 49, 7, 8, 9, 10, 50, 51, 52, 53, 54, 55, 56, 57, 58, 59, 60, 61, 62, 63, 64, 65, 66, 67, 68, 69, 70, 71, 72, 73, 74, 75, 76, 77, 78, 79, 80, 81, 82, 83, 84, 85, 86, 87, 88, 89, 90, 91, 92, 93, 94, 95, 96, 97, 98, 99, 100, 101, 14, 102, 103, 104, 105, 106, 107, 108, 109, 110, 111, 112, 113, 114, 115, 116, 117, 118, 119, 120, 121, 122, 123, 124, 125, 126, 127, 128, 129, 130, 131, 132, 137, 138, 139, 140, 141, 142, 143, 151, 152, 153, 154, 155, 156, 157, 158, 159, 160, 161, 162, 163, 144, 145, 146, 147, 148, 149, 150, 164] (by decide +kernel) (by decide +kernel)
set_option maxRecDepth 20000 in
theorem gX7_part_X7_measured : GoodIn wsX7_part (wsV RX7 87 RX7 yX7_measured wsX7_measured) := goodIn_app (goodIn_of _ (by decide +kernel)) ggX7_part_X7_measured
set_option maxRecDepth 20000 in
theorem ggX7_part_X3_partOf : GoodIn wsX7_part wsX3_partOf := goodIn_r _ [136, 40, 125, 126, 127, 31, 128, 33, 121, 95, 96, 97, 98, 99, 100, 122, 14, 123, 124, 69, 51, 52, 53, 54, 55, 151, 152, 153, 154, 155, 156, 157, 158, 159, 160, 161, 162, 163, 164] (by decide +kernel) (by decide +kernel)
set_option maxRecDepth 20000 in
theorem gX7_part_X3_partOf : GoodIn wsX7_part (wsV RX7 130 RX3 yX3_partOf wsX3_partOf) := goodIn_app (goodIn_of _ (by decide +kernel)) ggX7_part_X3_partOf
theorem dX7_part_0 : decode cX7_part 0 = .ok (.aload_n 0, 1) := by decide +kernel
theorem dX7_part_1 : decode cX7_part 1 = .ok (.getfield 10, 3) := by decide +kernel
theorem dX7_part_4 : decode cX7_part 4 = .ok (.iload_n 1, 1) := by decide +kernel
theorem dX7_part_5 : decode cX7_part 5 = .ok (.invokevirtual 75, 3) := by decide +kernel
theorem dX7_part_8 : decode cX7_part 8 = .ok (.invokestatic 79, 3) := by decide +kernel
theorem dX7_part_11 : decode cX7_part 11 = .ok (.aload_n 0, 1) := by decide +kernel
theorem dX7_part_12 : decode cX7_part 12 = .ok (.invokevirtual 87, 3) := by decide +kernel
theorem dX7_part_15 : decode cX7_part 15 = .ok (.iload_n 1, 1) := by decide +kernel
theorem dX7_part_16 : decode cX7_part 16 = .ok (.invokevirtual 130, 3) := by decide +kernel
theorem dX7_part_19 : decode cX7_part 19 = .ok (.dreturn, 1) := by decide +kernel
set_option maxRecDepth 20000 in
theorem ggX7_reason_X6_faultOfSet : GoodIn wsX7_reason wsX6_faultOfSet := goodIn_r _ [6, 7, 8, 9, 5, 10, 11, 12, 13, 14, 159, 160, 161, 162, 163, 164, 165] (by decide +kernel) (by decide +kernel)
set_option maxRecDepth 20000 in
theorem gX7_reason_X6_faultOfSet : GoodIn wsX7_reason (wsV RX7 106 RX6 yX6_faultOfSet wsX6_faultOfSet) := goodIn_app (goodIn_of _ (by decide +kernel)) ggX7_reason_X6_faultOfSet
set_option maxRecDepth 20000 in
theorem ggX7_reason_X7_refuse : GoodIn wsX7_reason wsX7_refuse := goodIn_ca (goodIn_ca (goodIn_ca (goodIn_r _ [17, 18, 19, 20, 21, 22, 23] (by decide +kernel) (by decide +kernel)) (goodIn_sub (fun _ h => List.mem_cons_of_mem _ (List.mem_append_left _ (List.mem_append_left _ (List.mem_append_right _ h)))) (by decide +kernel))) (goodIn_sub (fun _ h => List.mem_cons_of_mem _ (List.mem_append_left _ (List.mem_append_right _ h))) (by decide +kernel))) (goodIn_sub (fun _ h => List.mem_cons_of_mem _ (List.mem_append_right _ h)) (by decide +kernel))
set_option maxRecDepth 20000 in
theorem gX7_reason_X7_refuse : GoodIn wsX7_reason (va_wsS RX7 79 yX7_refuse wsX7_refuse) := goodIn_app (goodIn_of _ (by decide +kernel)) ggX7_reason_X7_refuse
set_option maxRecDepth 20000 in
theorem ggX7_reason_X7_measured : GoodIn wsX7_reason wsX7_measured := goodIn_r _ [27, 28, 29, 1, 30, 31, 32, 33, 34, 35, 36, 37, 38, 39, 40, 41, 42, 43, 44, 45, 5, 46, 11, 47, 48, 49, 50, 51, 52, 53, 54, 55, 56, 57, 58, 59, 60, 61, 62, 63, 64, 65, 66, 67, 68, 69, 70, 71, 72, 73, 74, 75, 76, 77, 78, 79, 80, 81, 82, 83, 84, 85, 8, 9, 10, 86, 87, 88, 89, 90, 91, 92, 93, 94, 95, 96, 97, 98, 99, 100, 101, 102, 103, 104, 13, 105, 106, 107, 108, 109, 110, 111, 112, 113, 114, 115, 116, 117, 118, 119, 120, 121, 122, 123, 124, 125, 126, 127, 128, 129, 130, 131, 132, 133, 134, 135, 139, 140, 141, 142, 143, 144, 145, 146, 147, 148, 149, 150, 151, 152, 153, 154, 155, 156, 157, 158, 159, 160, 161, 162, 163, 164, 165, 166] (by decide +kernel) (by decide +kernel)
set_option maxRecDepth 20000 in
theorem gX7_reason_X7_measured : GoodIn wsX7_reason (wsV RX7 87 RX7 yX7_measured wsX7_measured) := goodIn_app (goodIn_of _ (by decide +kernel)) ggX7_reason_X7_measured
set_option maxRecDepth 20000 in
theorem ggX7_reason_X4_at : GoodIn wsX7_reason wsX4_at := goodIn_r _ [60, 61, 166] (by decide +kernel) (by decide +kernel)
set_option maxRecDepth 20000 in
theorem gX7_reason_X4_at : GoodIn wsX7_reason (wsV RX7 121 RX4 yX4_at wsX4_at) := goodIn_app (goodIn_of _ (by decide +kernel)) ggX7_reason_X4_at
set_option maxRecDepth 20000 in
theorem ggX7_reason_X6_weightOf : GoodIn wsX7_reason wsX6_weightOf := goodIn_r _ [109, 11, 110, 104, 13, 105, 56, 57, 58, 59, 60, 61, 159, 160, 161, 162, 163, 164, 165, 166] (by decide +kernel) (by decide +kernel)
set_option maxRecDepth 20000 in
theorem gX7_reason_X6_weightOf : GoodIn wsX7_reason (wsV RX7 137 RX6 yX6_weightOf wsX6_weightOf) := goodIn_app (goodIn_of _ (by decide +kernel)) ggX7_reason_X6_weightOf
set_option maxRecDepth 20000 in
theorem ggX7_reason_X6_firstBrokenRule : GoodIn wsX7_reason wsX6_firstBrokenRule := goodIn_r _ [89, 90, 91, 92, 93, 5, 94, 95, 96, 56, 57, 58, 59, 60, 61, 97, 98, 99, 100, 101, 102, 103, 104, 13, 105, 159, 160, 161, 162, 163, 164, 165, 166] (by decide +kernel) (by decide +kernel)
set_option maxRecDepth 20000 in
theorem gX7_reason_X6_firstBrokenRule : GoodIn wsX7_reason (wsV RX7 143 RX6 yX6_firstBrokenRule wsX6_firstBrokenRule) := goodIn_app (goodIn_of _ (by decide +kernel)) ggX7_reason_X6_firstBrokenRule
theorem dX7_reason_0 : decode cX7_reason 0 = .ok (.aload_n 0, 1) := by decide +kernel
theorem dX7_reason_1 : decode cX7_reason 1 = .ok (.getfield 10, 3) := by decide +kernel
theorem dX7_reason_4 : decode cX7_reason 4 = .ok (.iload_n 1, 1) := by decide +kernel
theorem dX7_reason_5 : decode cX7_reason 5 = .ok (.invokevirtual 106, 3) := by decide +kernel
theorem dX7_reason_8 : decode cX7_reason 8 = .ok (.invokestatic 79, 3) := by decide +kernel
theorem dX7_reason_11 : decode cX7_reason 11 = .ok (.aload_n 0, 1) := by decide +kernel
theorem dX7_reason_12 : decode cX7_reason 12 = .ok (.invokevirtual 87, 3) := by decide +kernel
theorem dX7_reason_15 : decode cX7_reason 15 = .ok (.getfield 134, 3) := by decide +kernel
theorem dX7_reason_18 : decode cX7_reason 18 = .ok (.iload_n 1, 1) := by decide +kernel
theorem dX7_reason_19 : decode cX7_reason 19 = .ok (.invokevirtual 121, 3) := by decide +kernel
theorem dX7_reason_22 : decode cX7_reason 22 = .ok (.istore_n 2, 1) := by decide +kernel
theorem dX7_reason_23 : decode cX7_reason 23 = .ok (.aload_n 0, 1) := by decide +kernel
theorem dX7_reason_24 : decode cX7_reason 24 = .ok (.getfield 10, 3) := by decide +kernel
theorem dX7_reason_27 : decode cX7_reason 27 = .ok (.iload_n 2, 1) := by decide +kernel
theorem dX7_reason_28 : decode cX7_reason 28 = .ok (.invokevirtual 137, 3) := by decide +kernel
theorem dX7_reason_31 : decode cX7_reason 31 = .ok (.aload_n 0, 1) := by decide +kernel
theorem dX7_reason_32 : decode cX7_reason 32 = .ok (.getfield 10, 3) := by decide +kernel
theorem dX7_reason_35 : decode cX7_reason 35 = .ok (.getfield 140, 3) := by decide +kernel
theorem dX7_reason_38 : decode cX7_reason 38 = .ok (.if_icmp .ge 5, 3) := by decide +kernel
theorem dX7_reason_41 : decode cX7_reason 41 = .ok (.iconst 1, 1) := by decide +kernel
theorem dX7_reason_42 : decode cX7_reason 42 = .ok (.ireturn, 1) := by decide +kernel
theorem dX7_reason_43 : decode cX7_reason 43 = .ok (.aload_n 0, 1) := by decide +kernel
theorem dX7_reason_44 : decode cX7_reason 44 = .ok (.getfield 10, 3) := by decide +kernel
theorem dX7_reason_47 : decode cX7_reason 47 = .ok (.iload_n 2, 1) := by decide +kernel
theorem dX7_reason_48 : decode cX7_reason 48 = .ok (.invokevirtual 143, 3) := by decide +kernel
theorem dX7_reason_51 : decode cX7_reason 51 = .ok (.istore_n 3, 1) := by decide +kernel
theorem dX7_reason_52 : decode cX7_reason 52 = .ok (.iload_n 3, 1) := by decide +kernel
theorem dX7_reason_53 : decode cX7_reason 53 = .ok (.iconst (-1), 1) := by decide +kernel
theorem dX7_reason_54 : decode cX7_reason 54 = .ok (.if_icmp .ne 7, 3) := by decide +kernel
theorem dX7_reason_57 : decode cX7_reason 57 = .ok (.iconst 0, 1) := by decide +kernel
theorem dX7_reason_58 : decode cX7_reason 58 = .ok (.goto 6, 3) := by decide +kernel
theorem dX7_reason_61 : decode cX7_reason 61 = .ok (.iconst 2, 1) := by decide +kernel
theorem dX7_reason_62 : decode cX7_reason 62 = .ok (.iload_n 3, 1) := by decide +kernel
theorem dX7_reason_63 : decode cX7_reason 63 = .ok (.iadd, 1) := by decide +kernel
theorem dX7_reason_64 : decode cX7_reason 64 = .ok (.ireturn, 1) := by decide +kernel
set_option maxRecDepth 20000 in
theorem ggX7_pivot_X6_faultOfOrder : GoodIn wsX7_pivot wsX6_faultOfOrder := goodIn_r _ [6, 7, 8, 9, 5, 10, 11, 12, 13, 14, 15, 16, 17, 18, 19, 20, 21, 22, 23, 24, 25, 26, 27, 28, 29, 145, 146, 147, 148, 149, 150, 151, 152] (by decide +kernel) (by decide +kernel)
set_option maxRecDepth 20000 in
theorem gX7_pivot_X6_faultOfOrder : GoodIn wsX7_pivot (wsV RX7 146 RX6 yX6_faultOfOrder wsX6_faultOfOrder) := goodIn_app (goodIn_of _ (by decide +kernel)) ggX7_pivot_X6_faultOfOrder
set_option maxRecDepth 20000 in
theorem ggX7_pivot_X7_refuse : GoodIn wsX7_pivot wsX7_refuse := goodIn_ca (goodIn_ca (goodIn_ca (goodIn_r _ [32, 33, 34, 35, 36, 37, 38] (by decide +kernel) (by decide +kernel)) (goodIn_sub (fun _ h => List.mem_cons_of_mem _ (List.mem_append_left _ (List.mem_append_left _ (List.mem_append_right _ h)))) (by decide +kernel))) (goodIn_sub (fun _ h => List.mem_cons_of_mem _ (List.mem_append_left _ (List.mem_append_right _ h))) (by decide +kernel))) (goodIn_sub (fun _ h => List.mem_cons_of_mem _ (List.mem_append_right _ h)) (by decide +kernel))
set_option maxRecDepth 20000 in
theorem gX7_pivot_X7_refuse : GoodIn wsX7_pivot (va_wsS RX7 79 yX7_refuse wsX7_refuse) := goodIn_app (goodIn_of _ (by decide +kernel)) ggX7_pivot_X7_refuse
set_option maxRecDepth 20000 in
theorem ggX7_pivot_X7_measured : GoodIn wsX7_pivot wsX7_measured := goodIn_r _ [42, 43, 44, 1, 45, 46, 47, 48, 49, 50, 51, 52, 53, 54, 55, 56, 57, 58, 8, 9, 5, 10, 11, 12, 13, 14, 15, 16, 17, 18, 19, 20, 21, 22, 23, 24, 25, 26, 59, 60, 61, 62, 63, 64, 65, 66, 67, 68, 69, 70, 71, 72, 73, 74, 75, 76, 77, 78, 79, 80, 81, 82, 83, 84, 85, 86, 87, 88, 89, 90, 91, 92, 93, 94, 95, 96, 97, 98, 99, 100, 101, 102, 103, 27, 28, 29, 104, 105, 106, 107, 108, 109, 110, 111, 112, 113, 114, 115, 116, 117, 118, 119, 120, 121, 122, 123, 124, 125, 126, 127, 128, 129, 130, 131, 132, 133, 138, 139, 140, 141, 142, 143, 144, 153, 154, 155, 156, 157, 158, 159, 160, 161, 162, 163, 164, 165, 145, 146, 147, 148, 149, 150, 151, 152] (by decide +kernel) (by decide +kernel)
set_option maxRecDepth 20000 in
theorem gX7_pivot_X7_measured : GoodIn wsX7_pivot (wsV RX7 87 RX7 yX7_measured wsX7_measured) := goodIn_app (goodIn_of _ (by decide +kernel)) ggX7_pivot_X7_measured
set_option maxRecDepth 20000 in
theorem ggX7_pivot_X3_pivotOf : GoodIn wsX7_pivot wsX3_pivotOf := goodIn_r _ [137, 50, 113, 114, 115, 48, 116, 81, 51, 72, 22, 23, 24, 25, 26, 153, 154, 155, 156, 157, 158, 159, 160, 161, 162, 163, 164, 165, 152] (by decide +kernel) (by decide +kernel)
set_option maxRecDepth 20000 in
theorem gX7_pivot_X3_pivotOf : GoodIn wsX7_pivot (wsV RX7 149 RX3 yX3_pivotOf wsX3_pivotOf) := goodIn_app (goodIn_of _ (by decide +kernel)) ggX7_pivot_X3_pivotOf
theorem dX7_pivot_0 : decode cX7_pivot 0 = .ok (.aload_n 0, 1) := by decide +kernel
theorem dX7_pivot_1 : decode cX7_pivot 1 = .ok (.getfield 10, 3) := by decide +kernel
theorem dX7_pivot_4 : decode cX7_pivot 4 = .ok (.iload_n 1, 1) := by decide +kernel
theorem dX7_pivot_5 : decode cX7_pivot 5 = .ok (.invokevirtual 146, 3) := by decide +kernel
theorem dX7_pivot_8 : decode cX7_pivot 8 = .ok (.invokestatic 79, 3) := by decide +kernel
theorem dX7_pivot_11 : decode cX7_pivot 11 = .ok (.aload_n 0, 1) := by decide +kernel
theorem dX7_pivot_12 : decode cX7_pivot 12 = .ok (.invokevirtual 87, 3) := by decide +kernel
theorem dX7_pivot_15 : decode cX7_pivot 15 = .ok (.iload_n 1, 1) := by decide +kernel
theorem dX7_pivot_16 : decode cX7_pivot 16 = .ok (.invokevirtual 149, 3) := by decide +kernel
theorem dX7_pivot_19 : decode cX7_pivot 19 = .ok (.ireturn, 1) := by decide +kernel
set_option maxRecDepth 20000 in
theorem ggX7_swingsWith_X6_faultOfMember : GoodIn wsX7_swingsWith wsX6_faultOfMember := goodIn_r _ [6, 7, 8, 9, 5, 10, 11, 167, 168, 169, 170, 171, 172, 173] (by decide +kernel) (by decide +kernel)
set_option maxRecDepth 20000 in
theorem gX7_swingsWith_X6_faultOfMember : GoodIn wsX7_swingsWith (wsV RX7 75 RX6 yX6_faultOfMember wsX6_faultOfMember) := goodIn_app (goodIn_of _ (by decide +kernel)) ggX7_swingsWith_X6_faultOfMember
set_option maxRecDepth 20000 in
theorem ggX7_swingsWith_X7_refuse : GoodIn wsX7_swingsWith wsX7_refuse := goodIn_ca (goodIn_ca (goodIn_ca (goodIn_r _ [15, 16, 17, 18, 19, 20, 21] (by decide +kernel) (by decide +kernel)) (goodIn_sub (fun _ h => List.mem_cons_of_mem _ (List.mem_append_left _ (List.mem_append_left _ (List.mem_append_right _ h)))) (by decide +kernel))) (goodIn_sub (fun _ h => List.mem_cons_of_mem _ (List.mem_append_left _ (List.mem_append_right _ h))) (by decide +kernel))) (goodIn_sub (fun _ h => List.mem_cons_of_mem _ (List.mem_append_right _ h)) (by decide +kernel))
set_option maxRecDepth 20000 in
theorem gX7_swingsWith_X7_refuse : GoodIn wsX7_swingsWith (va_wsS RX7 79 yX7_refuse wsX7_refuse) := goodIn_app (goodIn_of _ (by decide +kernel)) ggX7_swingsWith_X7_refuse
set_option maxRecDepth 20000 in
theorem ggX7_swingsWith_X7_faultOfRange : GoodIn wsX7_swingsWith wsX7_faultOfRange := goodIn_r _ [24] (by decide +kernel) (by decide +kernel)
set_option maxRecDepth 20000 in
theorem gX7_swingsWith_X7_faultOfRange : GoodIn wsX7_swingsWith (va_wsS RX7 83 yX7_faultOfRange wsX7_faultOfRange) := goodIn_app (goodIn_of _ (by decide +kernel)) ggX7_swingsWith_X7_faultOfRange
set_option maxRecDepth 20000 in
theorem ggX7_swingsWith_X7_measuredWith : GoodIn wsX7_swingsWith wsX7_measuredWith := goodIn_r _ [28, 29, 1, 30, 31, 32, 33, 5, 34, 11, 35, 36, 37, 38, 39, 40, 41, 42, 43, 44, 45, 46, 47, 48, 49, 50, 51, 52, 53, 54, 55, 56, 57, 58, 59, 60, 61, 62, 63, 64, 65, 66, 67, 68, 69, 70, 71, 7, 8, 9, 10, 72, 73, 74, 75, 76, 77, 78, 79, 80, 81, 82, 83, 84, 85, 86, 87, 88, 89, 90, 91, 92, 93, 94, 95, 96, 97, 98, 99, 100, 101, 102, 103, 104, 105, 106, 107, 108, 109, 110, 111, 112, 113, 114, 115, 14, 116, 117, 118, 119, 120, 121, 122, 123, 124, 125, 126, 127, 128, 129, 130, 131, 132, 133, 134, 135, 136, 137, 138, 139, 140, 141, 142, 143, 144, 145, 147, 148, 149, 150, 151, 152, 153, 167, 168, 169, 170, 171, 172, 173, 174, 154, 155, 156, 157, 158, 159, 160, 161, 162, 163, 164, 165, 166] (by decide +kernel) (by decide +kernel)
set_option maxRecDepth 20000 in
theorem gX7_swingsWith_X7_measuredWith : GoodIn wsX7_swingsWith (wsV RX7 152 RX7 yX7_measuredWith wsX7_measuredWith) := goodIn_app (goodIn_of _ (by decide +kernel)) ggX7_swingsWith_X7_measuredWith
set_option maxRecDepth 20000 in
theorem ggX7_swingsWith_X4_at : GoodIn wsX7_swingsWith wsX4_at := goodIn_r _ [50, 46, 174] (by decide +kernel) (by decide +kernel)
set_option maxRecDepth 20000 in
theorem gX7_swingsWith_X4_at : GoodIn wsX7_swingsWith (wsV RX7 121 RX4 yX4_at wsX4_at) := goodIn_app (goodIn_of _ (by decide +kernel)) ggX7_swingsWith_X4_at
theorem dX7_swingsWith_0 : decode cX7_swingsWith 0 = .ok (.aload_n 0, 1) := by decide +kernel
theorem dX7_swingsWith_1 : decode cX7_swingsWith 1 = .ok (.getfield 10, 3) := by decide +kernel
theorem dX7_swingsWith_4 : decode cX7_swingsWith 4 = .ok (.iload_n 1, 1) := by decide +kernel
theorem dX7_swingsWith_5 : decode cX7_swingsWith 5 = .ok (.invokevirtual 75, 3) := by decide +kernel
theorem dX7_swingsWith_8 : decode cX7_swingsWith 8 = .ok (.invokestatic 79, 3) := by decide +kernel
theorem dX7_swingsWith_11 : decode cX7_swingsWith 11 = .ok (.iload_n 2, 1) := by decide +kernel
theorem dX7_swingsWith_12 : decode cX7_swingsWith 12 = .ok (.iconst 1, 1) := by decide +kernel
theorem dX7_swingsWith_13 : decode cX7_swingsWith 13 = .ok (.sipush 400, 3) := by decide +kernel
theorem dX7_swingsWith_16 : decode cX7_swingsWith 16 = .ok (.invokestatic 83, 3) := by decide +kernel
theorem dX7_swingsWith_19 : decode cX7_swingsWith 19 = .ok (.invokestatic 79, 3) := by decide +kernel
theorem dX7_swingsWith_22 : decode cX7_swingsWith 22 = .ok (.aload_n 0, 1) := by decide +kernel
theorem dX7_swingsWith_23 : decode cX7_swingsWith 23 = .ok (.iload_n 2, 1) := by decide +kernel
theorem dX7_swingsWith_24 : decode cX7_swingsWith 24 = .ok (.invokevirtual 152, 3) := by decide +kernel
theorem dX7_swingsWith_27 : decode cX7_swingsWith 27 = .ok (.getfield 156, 3) := by decide +kernel
theorem dX7_swingsWith_30 : decode cX7_swingsWith 30 = .ok (.iload_n 1, 1) := by decide +kernel
theorem dX7_swingsWith_31 : decode cX7_swingsWith 31 = .ok (.invokevirtual 121, 3) := by decide +kernel
theorem dX7_swingsWith_34 : decode cX7_swingsWith 34 = .ok (.ireturn, 1) := by decide +kernel
set_option maxRecDepth 20000 in
theorem ggX7_bestQuota_X6_faultOfMember : GoodIn wsX7_bestQuota wsX6_faultOfMember := goodIn_r _ [6, 7, 8, 9, 5, 10, 11, 160, 161, 162, 163, 164, 165, 166] (by decide +kernel) (by decide +kernel)
set_option maxRecDepth 20000 in
theorem gX7_bestQuota_X6_faultOfMember : GoodIn wsX7_bestQuota (wsV RX7 75 RX6 yX6_faultOfMember wsX6_faultOfMember) := goodIn_app (goodIn_of _ (by decide +kernel)) ggX7_bestQuota_X6_faultOfMember
set_option maxRecDepth 20000 in
theorem ggX7_bestQuota_X7_refuse : GoodIn wsX7_bestQuota wsX7_refuse := goodIn_ca (goodIn_ca (goodIn_ca (goodIn_r _ [15, 16, 17, 18, 19, 20, 21] (by decide +kernel) (by decide +kernel)) (goodIn_sub (fun _ h => List.mem_cons_of_mem _ (List.mem_append_left _ (List.mem_append_left _ (List.mem_append_right _ h)))) (by decide +kernel))) (goodIn_sub (fun _ h => List.mem_cons_of_mem _ (List.mem_append_left _ (List.mem_append_right _ h))) (by decide +kernel))) (goodIn_sub (fun _ h => List.mem_cons_of_mem _ (List.mem_append_right _ h)) (by decide +kernel))
set_option maxRecDepth 20000 in
theorem gX7_bestQuota_X7_refuse : GoodIn wsX7_bestQuota (va_wsS RX7 79 yX7_refuse wsX7_refuse) := goodIn_app (goodIn_of _ (by decide +kernel)) ggX7_bestQuota_X7_refuse
set_option maxRecDepth 20000 in
theorem ggX7_bestQuota_X7_measured : GoodIn wsX7_bestQuota wsX7_measured := goodIn_r _ [25, 26, 27, 1, 28, 29, 30, 31, 32, 33, 34, 35, 36, 37, 38, 39, 40, 41, 42, 43, 5, 44, 11, 45, 46, 47, 48, 49, 7, 8, 9, 10, 50, 51, 52, 53, 54, 55, 56, 57, 58, 59, 60, 61, 62, 63, 64, 65, 66, 67, 68, 69, 70, 71, 72, 73, 74, 75, 76, 77, 78, 79, 80, 81, 82, 83, 84, 85, 86, 87, 88, 89, 90, 91, 92, 93, 94, 95, 96, 97, 98, 99, 100, 101, 14, 102, 103, 104, 105, 106, 107, 108, 109, 110, 111, 112, 113, 114, 115, 116, 117, 118, 119, 120, 121, 122, 123, 124, 125, 126, 127, 128, 129, 130, 131, 132, 153, 154, 155, 156, 157, 158, 159, 167, 168, 169, 170, 171, 172, 173, 174, 175, 176, 177, 178, 179, 160, 161, 162, 163, 164, 165, 166, 180] (by decide +kernel) (by decide +kernel)
set_option maxRecDepth 20000 in
theorem gX7_bestQuota_X7_measured : GoodIn wsX7_bestQuota (wsV RX7 87 RX7 yX7_measured wsX7_measured) := goodIn_app (goodIn_of _ (by decide +kernel)) ggX7_bestQuota_X7_measured
set_option maxRecDepth 20000 in
theorem ggX7_bestQuota_X6_everybody : GoodIn wsX7_bestQuota wsX6_everybody := goodIn_r _ [82, 11, 160, 161, 162, 163, 164, 165, 166] (by decide +kernel) (by decide +kernel)
set_option maxRecDepth 20000 in
theorem gX7_bestQuota_X6_everybody : GoodIn wsX7_bestQuota (wsV RX7 159 RX6 yX6_everybody wsX6_everybody) := goodIn_app (goodIn_of _ (by decide +kernel)) ggX7_bestQuota_X6_everybody
set_option maxRecDepth 20000 in
theorem ggX7_bestQuota_X6_weightOf : GoodIn wsX7_bestQuota wsX6_weightOf := goodIn_r _ [106, 11, 107, 101, 14, 102, 50, 51, 52, 53, 54, 55, 160, 161, 162, 163, 164, 165, 166, 180] (by decide +kernel) (by decide +kernel)
set_option maxRecDepth 20000 in
theorem gX7_bestQuota_X6_weightOf : GoodIn wsX7_bestQuota (wsV RX7 137 RX6 yX6_weightOf wsX6_weightOf) := goodIn_app (goodIn_of _ (by decide +kernel)) ggX7_bestQuota_X6_weightOf
set_option maxRecDepth 20000 in
theorem ggX7_bestQuota_X3_bestQuotaFor : GoodIn wsX7_bestQuota wsX3_bestQuotaFor := goodIn_r _ [138, 139, 140, 141, 142, 143, 31, 144, 61, 62, 63, 53, 64, 55, 108, 109, 110, 111, 33, 145, 146, 147, 148, 101, 14, 102, 149, 150, 151, 152, 78, 69, 51, 52, 54, 129, 130, 131, 132, 167, 168, 169, 170, 171, 172, 173, 174, 175, 176, 177, 178, 179, 180] (by decide +kernel) (by decide +kernel)
set_option maxRecDepth 20000 in
theorem gX7_bestQuota_X3_bestQuotaFor : GoodIn wsX7_bestQuota (wsV RX7 163 RX3 yX3_bestQuotaFor wsX3_bestQuotaFor) := goodIn_app (goodIn_of _ (by decide +kernel)) ggX7_bestQuota_X3_bestQuotaFor
theorem dX7_bestQuota_0 : decode cX7_bestQuota 0 = .ok (.aload_n 0, 1) := by decide +kernel
theorem dX7_bestQuota_1 : decode cX7_bestQuota 1 = .ok (.getfield 10, 3) := by decide +kernel
theorem dX7_bestQuota_4 : decode cX7_bestQuota 4 = .ok (.iload_n 1, 1) := by decide +kernel
theorem dX7_bestQuota_5 : decode cX7_bestQuota 5 = .ok (.invokevirtual 75, 3) := by decide +kernel
theorem dX7_bestQuota_8 : decode cX7_bestQuota 8 = .ok (.invokestatic 79, 3) := by decide +kernel
theorem dX7_bestQuota_11 : decode cX7_bestQuota 11 = .ok (.aload_n 0, 1) := by decide +kernel
theorem dX7_bestQuota_12 : decode cX7_bestQuota 12 = .ok (.invokevirtual 87, 3) := by decide +kernel
theorem dX7_bestQuota_15 : decode cX7_bestQuota 15 = .ok (.iload_n 1, 1) := by decide +kernel
theorem dX7_bestQuota_16 : decode cX7_bestQuota 16 = .ok (.aload_n 0, 1) := by decide +kernel
theorem dX7_bestQuota_17 : decode cX7_bestQuota 17 = .ok (.getfield 10, 3) := by decide +kernel
theorem dX7_bestQuota_20 : decode cX7_bestQuota 20 = .ok (.aload_n 0, 1) := by decide +kernel
theorem dX7_bestQuota_21 : decode cX7_bestQuota 21 = .ok (.getfield 10, 3) := by decide +kernel
theorem dX7_bestQuota_24 : decode cX7_bestQuota 24 = .ok (.invokevirtual 159, 3) := by decide +kernel
theorem dX7_bestQuota_27 : decode cX7_bestQuota 27 = .ok (.invokevirtual 137, 3) := by decide +kernel
theorem dX7_bestQuota_30 : decode cX7_bestQuota 30 = .ok (.invokevirtual 163, 3) := by decide +kernel
theorem dX7_bestQuota_33 : decode cX7_bestQuota 33 = .ok (.ireturn, 1) := by decide +kernel
set_option maxRecDepth 20000 in
theorem ggX7_dummiesWith_X7_faultOfRange : GoodIn wsX7_dummiesWith wsX7_faultOfRange := goodIn_r _ [4] (by decide +kernel) (by decide +kernel)
set_option maxRecDepth 20000 in
theorem gX7_dummiesWith_X7_faultOfRange : GoodIn wsX7_dummiesWith (va_wsS RX7 83 yX7_faultOfRange wsX7_faultOfRange) := goodIn_app (goodIn_of _ (by decide +kernel)) ggX7_dummiesWith_X7_faultOfRange
set_option maxRecDepth 20000 in
theorem ggX7_dummiesWith_X7_refuse : GoodIn wsX7_dummiesWith wsX7_refuse := goodIn_ca (goodIn_ca (goodIn_ca (goodIn_r _ [7, 8, 9, 10, 11, 12, 13] (by decide +kernel) (by decide +kernel)) (goodIn_sub (fun _ h => List.mem_cons_of_mem _ (List.mem_append_left _ (List.mem_append_left _ (List.mem_append_right _ h)))) (by decide +kernel))) (goodIn_sub (fun _ h => List.mem_cons_of_mem _ (List.mem_append_left _ (List.mem_append_right _ h))) (by decide +kernel))) (goodIn_sub (fun _ h => List.mem_cons_of_mem _ (List.mem_append_right _ h)) (by decide +kernel))
set_option maxRecDepth 20000 in
theorem gX7_dummiesWith_X7_refuse : GoodIn wsX7_dummiesWith (va_wsS RX7 79 yX7_refuse wsX7_refuse) := goodIn_app (goodIn_of _ (by decide +kernel)) ggX7_dummiesWith_X7_refuse
set_option maxRecDepth 20000 in
theorem ggX7_dummiesWith_X7_measuredWith : GoodIn wsX7_dummiesWith wsX7_measuredWith := goodIn_r _ [17, 18, 19, 20, 21, 22, 23, 24, 25, 26, 27, 28, 29, 30, 31, 32, 33, 34, 35, 36, 37, 38, 39, 40, 41, 42, 43, 44, 45, 46, 47, 48, 49, 50, 51, 52, 53, 54, 55, 56, 57, 58, 59, 60, 61, 62, 63, 64, 65, 66, 67, 68, 69, 70, 71, 72, 73, 74, 75, 76, 77, 78, 79, 80, 81, 82, 83, 84, 85, 86, 87, 88, 89, 90, 91, 92, 93, 94, 95, 96, 97, 98, 99, 100, 101, 102, 103, 104, 105, 106, 107, 108, 109, 110, 111, 3, 112, 113, 114, 115, 116, 117, 118, 119, 120, 121, 122, 123, 124, 125, 126, 127, 128, 129, 130, 131, 132, 133, 134, 135, 136, 137, 138, 139, 140, 141, 146, 147, 148, 149, 150, 151, 152, 153, 154, 155, 156, 157, 158, 159, 160, 161, 162, 163, 164, 165, 166, 167, 168, 169, 170, 171, 172, 173] (by decide +kernel) (by decide +kernel)
set_option maxRecDepth 20000 in
theorem gX7_dummiesWith_X7_measuredWith : GoodIn wsX7_dummiesWith (wsV RX7 152 RX7 yX7_measuredWith wsX7_measuredWith) := goodIn_app (goodIn_of _ (by decide +kernel)) ggX7_dummiesWith_X7_measuredWith
set_option maxRecDepth 20000 in
theorem ggX7_dummiesWith_X3_dummies : GoodIn wsX7_dummiesWith wsX3_dummies := goodIn_r _ [145, 48, 54, 111, 3, 112, 82, 40, 41, 36, 42, 38, 161, 162, 163, 164, 165, 166, 167, 168, 169, 170, 171, 172, 173, 160] (by decide +kernel) (by decide +kernel)
set_option maxRecDepth 20000 in
theorem gX7_dummiesWith_X3_dummies : GoodIn wsX7_dummiesWith (wsV RX7 166 RX3 yX3_dummies wsX3_dummies) := goodIn_app (goodIn_of _ (by decide +kernel)) ggX7_dummiesWith_X3_dummies
theorem dX7_dummiesWith_0 : decode cX7_dummiesWith 0 = .ok (.iload_n 1, 1) := by decide +kernel
theorem dX7_dummiesWith_1 : decode cX7_dummiesWith 1 = .ok (.iconst 1, 1) := by decide +kernel
theorem dX7_dummiesWith_2 : decode cX7_dummiesWith 2 = .ok (.sipush 400, 3) := by decide +kernel
theorem dX7_dummiesWith_5 : decode cX7_dummiesWith 5 = .ok (.invokestatic 83, 3) := by decide +kernel
theorem dX7_dummiesWith_8 : decode cX7_dummiesWith 8 = .ok (.invokestatic 79, 3) := by decide +kernel
theorem dX7_dummiesWith_11 : decode cX7_dummiesWith 11 = .ok (.aload_n 0, 1) := by decide +kernel
theorem dX7_dummiesWith_12 : decode cX7_dummiesWith 12 = .ok (.iload_n 1, 1) := by decide +kernel
theorem dX7_dummiesWith_13 : decode cX7_dummiesWith 13 = .ok (.invokevirtual 152, 3) := by decide +kernel
theorem dX7_dummiesWith_16 : decode cX7_dummiesWith 16 = .ok (.invokevirtual 166, 3) := by decide +kernel
theorem dX7_dummiesWith_19 : decode cX7_dummiesWith 19 = .ok (.ireturn, 1) := by decide +kernel
set_option maxRecDepth 20000 in
theorem ggX7_leastWeight_X6_faultOfMember : GoodIn wsX7_leastWeight wsX6_faultOfMember := goodIn_r _ [10, 11, 12, 13, 9, 14, 15, 157, 158, 159, 160, 161, 162, 163] (by decide +kernel) (by decide +kernel)
set_option maxRecDepth 20000 in
theorem gX7_leastWeight_X6_faultOfMember : GoodIn wsX7_leastWeight (wsV RX7 75 RX6 yX6_faultOfMember wsX6_faultOfMember) := goodIn_app (goodIn_of _ (by decide +kernel)) ggX7_leastWeight_X6_faultOfMember
set_option maxRecDepth 20000 in
theorem ggX7_leastWeight_X7_refuse : GoodIn wsX7_leastWeight wsX7_refuse := goodIn_ca (goodIn_ca (goodIn_ca (goodIn_r _ [19, 20, 21, 22, 23, 24, 25] (by decide +kernel) (by decide +kernel)) (goodIn_sub (fun _ h => List.mem_cons_of_mem _ (List.mem_append_left _ (List.mem_append_left _ (List.mem_append_right _ h)))) (by decide +kernel))) (goodIn_sub (fun _ h => List.mem_cons_of_mem _ (List.mem_append_left _ (List.mem_append_right _ h))) (by decide +kernel))) (goodIn_sub (fun _ h => List.mem_cons_of_mem _ (List.mem_append_right _ h)) (by decide +kernel))
set_option maxRecDepth 20000 in
theorem gX7_leastWeight_X7_refuse : GoodIn wsX7_leastWeight (va_wsS RX7 79 yX7_refuse wsX7_refuse) := goodIn_app (goodIn_of _ (by decide +kernel)) ggX7_leastWeight_X7_refuse
set_option maxRecDepth 20000 in
theorem ggX7_leastWeight_X7_measured : GoodIn wsX7_leastWeight wsX7_measured := goodIn_r _ [29, 30, 31, 1, 32, 33, 34, 35, 36, 37, 38, 39, 40, 41, 42, 43, 44, 45, 46, 47, 9, 48, 15, 49, 50, 51, 52, 53, 11, 12, 13, 14, 54, 55, 56, 57, 58, 59, 60, 61, 62, 63, 64, 65, 66, 67, 68, 69, 70, 71, 72, 73, 74, 75, 76, 77, 78, 79, 80, 81, 82, 83, 84, 85, 86, 87, 88, 89, 90, 91, 92, 93, 94, 95, 96, 97, 98, 99, 100, 101, 102, 103, 104, 105, 18, 106, 107, 108, 109, 110, 111, 112, 113, 114, 115, 116, 117, 118, 119, 120, 121, 122, 123, 124, 125, 126, 127, 128, 129, 130, 131, 132, 133, 134, 135, 136, 150, 151, 152, 153, 154, 155, 156, 164, 165, 166, 167, 168, 169, 170, 171, 172, 173, 174, 175, 176, 157, 158, 159, 160, 161, 162, 163, 177] (by decide +kernel) (by decide +kernel)
set_option maxRecDepth 20000 in
theorem gX7_leastWeight_X7_measured : GoodIn wsX7_leastWeight (wsV RX7 87 RX7 yX7_measured wsX7_measured) := goodIn_app (goodIn_of _ (by decide +kernel)) ggX7_leastWeight_X7_measured
set_option maxRecDepth 20000 in
theorem ggX7_leastWeight_X3_isSetOfPlayers : GoodIn wsX7_leastWeight wsX3_isSetOfPlayers := goodIn_r _ [115, 37, 164, 165, 166, 167, 168, 169, 170, 171, 172, 173, 174, 175, 176] (by decide +kernel) (by decide +kernel)
set_option maxRecDepth 20000 in
theorem gX7_leastWeight_X3_isSetOfPlayers : GoodIn wsX7_leastWeight (wsV RX7 169 RX3 yX3_isSetOfPlayers wsX3_isSetOfPlayers) := goodIn_app (goodIn_of _ (by decide +kernel)) ggX7_leastWeight_X3_isSetOfPlayers
set_option maxRecDepth 20000 in
theorem ggX7_leastWeight_X7_contains : GoodIn wsX7_leastWeight wsX7_contains := goodIn_r _ [106] (by decide +kernel) (by decide +kernel)
set_option maxRecDepth 20000 in
theorem gX7_leastWeight_X7_contains : GoodIn wsX7_leastWeight (va_wsS RX7 172 yX7_contains wsX7_contains) := goodIn_app (goodIn_of _ (by decide +kernel)) ggX7_leastWeight_X7_contains
set_option maxRecDepth 20000 in
theorem ggX7_leastWeight_X7_weightToSwing : GoodIn wsX7_leastWeight wsX7_weightToSwing := goodIn_r _ [142, 1, 143, 144, 4, 145, 146, 55, 56, 57, 58, 59, 147, 88, 89, 9, 90, 91, 92, 93, 94, 95, 96, 97, 54, 98, 99, 100, 101, 102, 103, 104, 105, 18, 106, 148, 117, 118, 35, 119, 82, 38, 73, 149, 108, 109, 110, 15, 111, 164, 165, 166, 167, 168, 169, 170, 171, 172, 173, 174, 175, 176, 150, 151, 152, 153, 154, 155, 156, 157, 158, 159, 160, 161, 162, 163, 177] (by decide +kernel) (by decide +kernel)
set_option maxRecDepth 20000 in
theorem gX7_leastWeight_X7_weightToSwing : GoodIn wsX7_leastWeight (wsV RX7 176 RX7 yX7_weightToSwing wsX7_weightToSwing) := goodIn_app (goodIn_of _ (by decide +kernel)) ggX7_leastWeight_X7_weightToSwing
theorem dX7_leastWeight_0 : decode cX7_leastWeight 0 = .ok (.aload_n 0, 1) := by decide +kernel
theorem dX7_leastWeight_1 : decode cX7_leastWeight 1 = .ok (.getfield 10, 3) := by decide +kernel
theorem dX7_leastWeight_4 : decode cX7_leastWeight 4 = .ok (.iload_n 1, 1) := by decide +kernel
theorem dX7_leastWeight_5 : decode cX7_leastWeight 5 = .ok (.invokevirtual 75, 3) := by decide +kernel
theorem dX7_leastWeight_8 : decode cX7_leastWeight 8 = .ok (.invokestatic 79, 3) := by decide +kernel
theorem dX7_leastWeight_11 : decode cX7_leastWeight 11 = .ok (.bipush 51, 2) := by decide +kernel
theorem dX7_leastWeight_13 : decode cX7_leastWeight 13 = .ok (.istore_n 2, 1) := by decide +kernel
theorem dX7_leastWeight_14 : decode cX7_leastWeight 14 = .ok (.aload_n 0, 1) := by decide +kernel
theorem dX7_leastWeight_15 : decode cX7_leastWeight 15 = .ok (.invokevirtual 87, 3) := by decide +kernel
theorem dX7_leastWeight_18 : decode cX7_leastWeight 18 = .ok (.astore_n 3, 1) := by decide +kernel
theorem dX7_leastWeight_19 : decode cX7_leastWeight 19 = .ok (.iconst 0, 1) := by decide +kernel
theorem dX7_leastWeight_20 : decode cX7_leastWeight 20 = .ok (.istore 4, 2) := by decide +kernel
theorem dX7_leastWeight_22 : decode cX7_leastWeight 22 = .ok (.iload 4, 2) := by decide +kernel
theorem dX7_leastWeight_24 : decode cX7_leastWeight 24 = .ok (.sipush 256, 3) := by decide +kernel
theorem dX7_leastWeight_27 : decode cX7_leastWeight 27 = .ok (.if_icmp .ge 40, 3) := by decide +kernel
theorem dX7_leastWeight_30 : decode cX7_leastWeight 30 = .ok (.aload_n 3, 1) := by decide +kernel
theorem dX7_leastWeight_31 : decode cX7_leastWeight 31 = .ok (.iload 4, 2) := by decide +kernel
theorem dX7_leastWeight_33 : decode cX7_leastWeight 33 = .ok (.invokevirtual 169, 3) := by decide +kernel
theorem dX7_leastWeight_36 : decode cX7_leastWeight 36 = .ok (.ifCond .eq 25, 3) := by decide +kernel
theorem dX7_leastWeight_39 : decode cX7_leastWeight 39 = .ok (.iload 4, 2) := by decide +kernel
theorem dX7_leastWeight_41 : decode cX7_leastWeight 41 = .ok (.iload_n 1, 1) := by decide +kernel
theorem dX7_leastWeight_42 : decode cX7_leastWeight 42 = .ok (.invokestatic 172, 3) := by decide +kernel
theorem dX7_leastWeight_45 : decode cX7_leastWeight 45 = .ok (.ifCond .eq 16, 3) := by decide +kernel
theorem dX7_leastWeight_48 : decode cX7_leastWeight 48 = .ok (.iload_n 2, 1) := by decide +kernel
theorem dX7_leastWeight_49 : decode cX7_leastWeight 49 = .ok (.aload_n 0, 1) := by decide +kernel
theorem dX7_leastWeight_50 : decode cX7_leastWeight 50 = .ok (.aload_n 3, 1) := by decide +kernel
theorem dX7_leastWeight_51 : decode cX7_leastWeight 51 = .ok (.iload_n 1, 1) := by decide +kernel
theorem dX7_leastWeight_52 : decode cX7_leastWeight 52 = .ok (.iload 4, 2) := by decide +kernel
theorem dX7_leastWeight_54 : decode cX7_leastWeight 54 = .ok (.invokevirtual 176, 3) := by decide +kernel
theorem dX7_leastWeight_57 : decode cX7_leastWeight 57 = .ok (.invokestatic 179, 3) := by decide +kernel
theorem dX7_leastWeight_60 : decode cX7_leastWeight 60 = .ok (.istore_n 2, 1) := by decide +kernel
theorem dX7_leastWeight_61 : decode cX7_leastWeight 61 = .ok (.iinc 4 1, 3) := by decide +kernel
theorem dX7_leastWeight_64 : decode cX7_leastWeight 64 = .ok (.goto (-42), 3) := by decide +kernel
theorem dX7_leastWeight_67 : decode cX7_leastWeight 67 = .ok (.iload_n 2, 1) := by decide +kernel
theorem dX7_leastWeight_68 : decode cX7_leastWeight 68 = .ok (.bipush 50, 2) := by decide +kernel
theorem dX7_leastWeight_70 : decode cX7_leastWeight 70 = .ok (.if_icmp .le 7, 3) := by decide +kernel
theorem dX7_leastWeight_73 : decode cX7_leastWeight 73 = .ok (.iconst (-1), 1) := by decide +kernel
theorem dX7_leastWeight_74 : decode cX7_leastWeight 74 = .ok (.goto 4, 3) := by decide +kernel
theorem dX7_leastWeight_77 : decode cX7_leastWeight 77 = .ok (.iload_n 2, 1) := by decide +kernel
theorem dX7_leastWeight_78 : decode cX7_leastWeight 78 = .ok (.ireturn, 1) := by decide +kernel
set_option maxRecDepth 20000 in
theorem ggX7_unionGain_X6_faultOfPlayers : GoodIn wsX7_unionGain wsX6_faultOfPlayers := goodIn_r _ [8, 9, 10, 11, 7, 12, 13, 14, 15, 16, 17, 18, 19, 20, 21, 22, 23, 24, 25, 26, 27, 28, 29, 30, 31, 169, 170, 171, 172, 173, 174, 175, 176] (by decide +kernel) (by decide +kernel)
set_option maxRecDepth 20000 in
theorem gX7_unionGain_X6_faultOfPlayers : GoodIn wsX7_unionGain (wsV RX7 184 RX6 yX6_faultOfPlayers wsX6_faultOfPlayers) := goodIn_app (goodIn_of _ (by decide +kernel)) ggX7_unionGain_X6_faultOfPlayers
set_option maxRecDepth 20000 in
theorem ggX7_unionGain_X7_refuse : GoodIn wsX7_unionGain wsX7_refuse := goodIn_ca (goodIn_ca (goodIn_ca (goodIn_r _ [35, 36, 37, 38, 39, 40, 41] (by decide +kernel) (by decide +kernel)) (goodIn_sub (fun _ h => List.mem_cons_of_mem _ (List.mem_append_left _ (List.mem_append_left _ (List.mem_append_right _ h)))) (by decide +kernel))) (goodIn_sub (fun _ h => List.mem_cons_of_mem _ (List.mem_append_left _ (List.mem_append_right _ h))) (by decide +kernel))) (goodIn_sub (fun _ h => List.mem_cons_of_mem _ (List.mem_append_right _ h)) (by decide +kernel))
set_option maxRecDepth 20000 in
theorem gX7_unionGain_X7_refuse : GoodIn wsX7_unionGain (va_wsS RX7 79 yX7_refuse wsX7_refuse) := goodIn_app (goodIn_of _ (by decide +kernel)) ggX7_unionGain_X7_refuse
set_option maxRecDepth 20000 in
theorem ggX7_unionGain_X7_measured : GoodIn wsX7_unionGain wsX7_measured := goodIn_r _ [45, 46, 47, 1, 48, 49, 50, 51, 52, 53, 54, 55, 56, 57, 58, 59, 60, 61, 62, 63, 7, 64, 17, 18, 19, 20, 21, 22, 13, 14, 15, 16, 23, 24, 25, 26, 27, 28, 65, 66, 67, 68, 69, 70, 71, 72, 73, 74, 75, 76, 77, 78, 79, 80, 81, 82, 83, 84, 85, 86, 87, 88, 89, 90, 91, 92, 93, 94, 95, 96, 97, 98, 99, 100, 101, 102, 103, 104, 105, 106, 107, 108, 109, 110, 34, 111, 112, 113, 114, 115, 116, 117, 118, 119, 120, 121, 122, 123, 124, 125, 126, 127, 128, 129, 130, 131, 132, 133, 134, 135, 136, 137, 138, 139, 140, 141, 162, 163, 164, 165, 166, 167, 168, 177, 178, 179, 180, 181, 182, 183, 184, 185, 186, 187, 188, 189, 169, 170, 171, 172, 173, 174, 175, 176] (by decide +kernel) (by decide +kernel)
set_option maxRecDepth 20000 in
theorem gX7_unionGain_X7_measured : GoodIn wsX7_unionGain (wsV RX7 87 RX7 yX7_measured wsX7_measured) := goodIn_app (goodIn_of _ (by decide +kernel)) ggX7_unionGain_X7_measured
set_option maxRecDepth 20000 in
theorem ggX7_unionGain_X3_partOf : GoodIn wsX7_unionGain wsX3_partOf := goodIn_r _ [145, 60, 134, 135, 136, 51, 137, 53, 130, 104, 105, 106, 107, 108, 109, 131, 34, 132, 133, 78, 24, 25, 26, 27, 28, 177, 178, 179, 180, 181, 182, 183, 184, 185, 186, 187, 188, 189, 176] (by decide +kernel) (by decide +kernel)
set_option maxRecDepth 20000 in
theorem gX7_unionGain_X3_partOf : GoodIn wsX7_unionGain (wsV RX7 130 RX3 yX3_partOf wsX3_partOf) := goodIn_app (goodIn_of _ (by decide +kernel)) ggX7_unionGain_X3_partOf
set_option maxRecDepth 20000 in
theorem ggX7_unionGain_X6_copyFrom : GoodIn wsX7_unionGain wsX6_copyFrom := goodIn_r _ [149, 17, 116, 22, 150, 96, 102, 101, 151, 152, 153, 26, 154, 28, 155, 24, 25, 27, 169, 170, 171, 172, 173, 174, 175, 176] (by decide +kernel) (by decide +kernel)
set_option maxRecDepth 20000 in
theorem gX7_unionGain_X6_copyFrom : GoodIn wsX7_unionGain (wsV RX7 187 RX6 yX6_copyFrom wsX6_copyFrom) := goodIn_app (goodIn_of _ (by decide +kernel)) ggX7_unionGain_X6_copyFrom
set_option maxRecDepth 20000 in
theorem ggX7_unionGain_X6_unite : GoodIn wsX7_unionGain wsX6_unite := goodIn_r _ [159, 17, 22, 160, 75, 76, 7, 77, 18, 19, 20, 21, 13, 14, 15, 16, 23, 24, 25, 26, 27, 28, 110, 34, 111, 161, 80, 81, 82, 169, 170, 171, 172, 173, 174, 175, 176] (by decide +kernel) (by decide +kernel)
set_option maxRecDepth 20000 in
theorem gX7_unionGain_X6_unite : GoodIn wsX7_unionGain (wsV RX7 191 RX6 yX6_unite wsX6_unite) := goodIn_app (goodIn_of _ (by decide +kernel)) ggX7_unionGain_X6_unite
set_option maxRecDepth 20000 in
theorem ggX7_unionGain_X3_measure : GoodIn wsX7_unionGain wsX3_measure := goodIn_r _ [52, 53, 54, 55, 56, 57, 58, 59, 60, 61, 62, 63, 7, 64, 17, 18, 19, 20, 21, 22, 13, 14, 15, 16, 23, 24, 25, 26, 27, 28, 65, 66, 67, 51, 68, 69, 70, 71, 72, 73, 74, 75, 76, 77, 78, 79, 80, 81, 82, 83, 84, 85, 86, 87, 88, 89, 90, 91, 92, 93, 94, 95, 96, 97, 98, 99, 100, 101, 102, 103, 104, 105, 106, 107, 108, 109, 110, 34, 111, 112, 113, 114, 115, 116, 117, 118, 119, 120, 121, 122, 123, 124, 125, 126, 127, 128, 129, 130, 131, 132, 133, 134, 135, 136, 137, 138, 139, 140, 141, 177, 178, 179, 180, 181, 182, 183, 184, 185, 186, 187, 188, 189, 169, 170, 171, 172, 173, 174, 175, 176] (by decide +kernel) (by decide +kernel)
set_option maxRecDepth 20000 in
theorem gX7_unionGain_X3_measure : GoodIn wsX7_unionGain (wsV RX7 195 RX3 yX3_measure wsX3_measure) := goodIn_app (goodIn_of _ (by decide +kernel)) ggX7_unionGain_X3_measure
theorem dX7_unionGain_0 : decode cX7_unionGain 0 = .ok (.aload_n 0, 1) := by decide +kernel
theorem dX7_unionGain_1 : decode cX7_unionGain 1 = .ok (.getfield 10, 3) := by decide +kernel
theorem dX7_unionGain_4 : decode cX7_unionGain 4 = .ok (.iload_n 1, 1) := by decide +kernel
theorem dX7_unionGain_5 : decode cX7_unionGain 5 = .ok (.iload_n 2, 1) := by decide +kernel
theorem dX7_unionGain_6 : decode cX7_unionGain 6 = .ok (.invokevirtual 184, 3) := by decide +kernel
theorem dX7_unionGain_9 : decode cX7_unionGain 9 = .ok (.invokestatic 79, 3) := by decide +kernel
theorem dX7_unionGain_12 : decode cX7_unionGain 12 = .ok (.aload_n 0, 1) := by decide +kernel
theorem dX7_unionGain_13 : decode cX7_unionGain 13 = .ok (.invokevirtual 87, 3) := by decide +kernel
theorem dX7_unionGain_16 : decode cX7_unionGain 16 = .ok (.iload_n 1, 1) := by decide +kernel
theorem dX7_unionGain_17 : decode cX7_unionGain 17 = .ok (.invokevirtual 130, 3) := by decide +kernel
theorem dX7_unionGain_20 : decode cX7_unionGain 20 = .ok (.aload_n 0, 1) := by decide +kernel
theorem dX7_unionGain_21 : decode cX7_unionGain 21 = .ok (.invokevirtual 87, 3) := by decide +kernel
theorem dX7_unionGain_24 : decode cX7_unionGain 24 = .ok (.iload_n 2, 1) := by decide +kernel
theorem dX7_unionGain_25 : decode cX7_unionGain 25 = .ok (.invokevirtual 130, 3) := by decide +kernel
theorem dX7_unionGain_28 : decode cX7_unionGain 28 = .ok (.dadd, 1) := by decide +kernel
theorem dX7_unionGain_29 : decode cX7_unionGain 29 = .ok (.dstore_n 3, 1) := by decide +kernel
theorem dX7_unionGain_30 : decode cX7_unionGain 30 = .ok (.aload_n 0, 1) := by decide +kernel
theorem dX7_unionGain_31 : decode cX7_unionGain 31 = .ok (.getfield 27, 3) := by decide +kernel
theorem dX7_unionGain_34 : decode cX7_unionGain 34 = .ok (.aload_n 0, 1) := by decide +kernel
theorem dX7_unionGain_35 : decode cX7_unionGain 35 = .ok (.getfield 10, 3) := by decide +kernel
theorem dX7_unionGain_38 : decode cX7_unionGain 38 = .ok (.invokevirtual 187, 3) := by decide +kernel
theorem dX7_unionGain_41 : decode cX7_unionGain 41 = .ok (.aload_n 0, 1) := by decide +kernel
theorem dX7_unionGain_42 : decode cX7_unionGain 42 = .ok (.getfield 27, 3) := by decide +kernel
theorem dX7_unionGain_45 : decode cX7_unionGain 45 = .ok (.iload_n 1, 1) := by decide +kernel
theorem dX7_unionGain_46 : decode cX7_unionGain 46 = .ok (.iload_n 2, 1) := by decide +kernel
theorem dX7_unionGain_47 : decode cX7_unionGain 47 = .ok (.invokevirtual 191, 3) := by decide +kernel
theorem dX7_unionGain_50 : decode cX7_unionGain 50 = .ok (.aload_n 0, 1) := by decide +kernel
theorem dX7_unionGain_51 : decode cX7_unionGain 51 = .ok (.getfield 30, 3) := by decide +kernel
theorem dX7_unionGain_54 : decode cX7_unionGain 54 = .ok (.aload_n 0, 1) := by decide +kernel
theorem dX7_unionGain_55 : decode cX7_unionGain 55 = .ok (.getfield 27, 3) := by decide +kernel
theorem dX7_unionGain_58 : decode cX7_unionGain 58 = .ok (.invokevirtual 195, 3) := by decide +kernel
theorem dX7_unionGain_61 : decode cX7_unionGain 61 = .ok (.aload_n 0, 1) := by decide +kernel
theorem dX7_unionGain_62 : decode cX7_unionGain 62 = .ok (.getfield 30, 3) := by decide +kernel
theorem dX7_unionGain_65 : decode cX7_unionGain 65 = .ok (.iload_n 1, 1) := by decide +kernel
theorem dX7_unionGain_66 : decode cX7_unionGain 66 = .ok (.invokevirtual 130, 3) := by decide +kernel
theorem dX7_unionGain_69 : decode cX7_unionGain 69 = .ok (.dload_n 3, 1) := by decide +kernel
theorem dX7_unionGain_70 : decode cX7_unionGain 70 = .ok (.dsub, 1) := by decide +kernel
theorem dX7_unionGain_71 : decode cX7_unionGain 71 = .ok (.dreturn, 1) := by decide +kernel
set_option maxRecDepth 20000 in
theorem ggX7_compare_X6_faultOfPlayers : GoodIn wsX7_compare wsX6_faultOfPlayers := goodIn_r _ [6, 7, 8, 9, 5, 10, 11, 12, 13, 14, 15, 16, 17, 18, 19, 20, 21, 22, 23, 24, 25, 26, 27, 28, 29, 151, 152, 153, 154, 155, 156, 157, 158] (by decide +kernel) (by decide +kernel)
set_option maxRecDepth 20000 in
theorem gX7_compare_X6_faultOfPlayers : GoodIn wsX7_compare (wsV RX7 184 RX6 yX6_faultOfPlayers wsX6_faultOfPlayers) := goodIn_app (goodIn_of _ (by decide +kernel)) ggX7_compare_X6_faultOfPlayers
set_option maxRecDepth 20000 in
theorem ggX7_compare_X7_refuse : GoodIn wsX7_compare wsX7_refuse := goodIn_ca (goodIn_ca (goodIn_ca (goodIn_r _ [33, 34, 35, 36, 37, 38, 39] (by decide +kernel) (by decide +kernel)) (goodIn_sub (fun _ h => List.mem_cons_of_mem _ (List.mem_append_left _ (List.mem_append_left _ (List.mem_append_right _ h)))) (by decide +kernel))) (goodIn_sub (fun _ h => List.mem_cons_of_mem _ (List.mem_append_left _ (List.mem_append_right _ h))) (by decide +kernel))) (goodIn_sub (fun _ h => List.mem_cons_of_mem _ (List.mem_append_right _ h)) (by decide +kernel))
set_option maxRecDepth 20000 in
theorem gX7_compare_X7_refuse : GoodIn wsX7_compare (va_wsS RX7 79 yX7_refuse wsX7_refuse) := goodIn_app (goodIn_of _ (by decide +kernel)) ggX7_compare_X7_refuse
set_option maxRecDepth 20000 in
theorem ggX7_compare_X7_measured : GoodIn wsX7_compare wsX7_measured := goodIn_r _ [43, 44, 45, 1, 46, 47, 48, 49, 50, 51, 52, 53, 54, 55, 56, 57, 58, 59, 60, 61, 5, 62, 15, 16, 17, 18, 19, 20, 11, 12, 13, 14, 21, 22, 23, 24, 25, 26, 63, 64, 65, 66, 67, 68, 69, 70, 71, 72, 73, 74, 75, 76, 77, 78, 79, 80, 81, 82, 83, 84, 85, 86, 87, 88, 89, 90, 91, 92, 93, 94, 95, 96, 97, 98, 99, 100, 101, 102, 103, 104, 105, 106, 107, 108, 32, 109, 110, 111, 112, 113, 114, 115, 116, 117, 118, 119, 120, 121, 122, 123, 124, 125, 126, 127, 128, 129, 130, 131, 132, 133, 134, 135, 136, 137, 138, 139, 144, 145, 146, 147, 148, 149, 150, 159, 160, 161, 162, 163, 164, 165, 166, 167, 168, 169, 170, 171, 151, 152, 153, 154, 155, 156, 157, 158] (by decide +kernel) (by decide +kernel)
set_option maxRecDepth 20000 in
theorem gX7_compare_X7_measured : GoodIn wsX7_compare (wsV RX7 87 RX7 yX7_measured wsX7_measured) := goodIn_app (goodIn_of _ (by decide +kernel)) ggX7_compare_X7_measured
set_option maxRecDepth 20000 in
theorem ggX7_compare_X3_isNeverBelow : GoodIn wsX7_compare wsX3_isNeverBelow := goodIn_r _ [143, 115, 116, 117, 49, 118, 51, 119, 120, 121, 122, 85, 52, 76, 22, 23, 24, 25, 26, 159, 160, 161, 162, 163, 164, 165, 166, 167, 168, 169, 170, 171, 158] (by decide +kernel) (by decide +kernel)
set_option maxRecDepth 20000 in
theorem gX7_compare_X3_isNeverBelow : GoodIn wsX7_compare (wsV RX7 198 RX3 yX3_isNeverBelow wsX3_isNeverBelow) := goodIn_app (goodIn_of _ (by decide +kernel)) ggX7_compare_X3_isNeverBelow
theorem dX7_compare_0 : decode cX7_compare 0 = .ok (.aload_n 0, 1) := by decide +kernel
theorem dX7_compare_1 : decode cX7_compare 1 = .ok (.getfield 10, 3) := by decide +kernel
theorem dX7_compare_4 : decode cX7_compare 4 = .ok (.iload_n 1, 1) := by decide +kernel
theorem dX7_compare_5 : decode cX7_compare 5 = .ok (.iload_n 2, 1) := by decide +kernel
theorem dX7_compare_6 : decode cX7_compare 6 = .ok (.invokevirtual 184, 3) := by decide +kernel
theorem dX7_compare_9 : decode cX7_compare 9 = .ok (.invokestatic 79, 3) := by decide +kernel
theorem dX7_compare_12 : decode cX7_compare 12 = .ok (.aload_n 0, 1) := by decide +kernel
theorem dX7_compare_13 : decode cX7_compare 13 = .ok (.invokevirtual 87, 3) := by decide +kernel
theorem dX7_compare_16 : decode cX7_compare 16 = .ok (.iload_n 1, 1) := by decide +kernel
theorem dX7_compare_17 : decode cX7_compare 17 = .ok (.iload_n 2, 1) := by decide +kernel
theorem dX7_compare_18 : decode cX7_compare 18 = .ok (.invokevirtual 198, 3) := by decide +kernel
theorem dX7_compare_21 : decode cX7_compare 21 = .ok (.istore_n 3, 1) := by decide +kernel
theorem dX7_compare_22 : decode cX7_compare 22 = .ok (.aload_n 0, 1) := by decide +kernel
theorem dX7_compare_23 : decode cX7_compare 23 = .ok (.invokevirtual 87, 3) := by decide +kernel
theorem dX7_compare_26 : decode cX7_compare 26 = .ok (.iload_n 2, 1) := by decide +kernel
theorem dX7_compare_27 : decode cX7_compare 27 = .ok (.iload_n 1, 1) := by decide +kernel
theorem dX7_compare_28 : decode cX7_compare 28 = .ok (.invokevirtual 198, 3) := by decide +kernel
theorem dX7_compare_31 : decode cX7_compare 31 = .ok (.istore 4, 2) := by decide +kernel
theorem dX7_compare_33 : decode cX7_compare 33 = .ok (.iload_n 3, 1) := by decide +kernel
theorem dX7_compare_34 : decode cX7_compare 34 = .ok (.ifCond .eq 14, 3) := by decide +kernel
theorem dX7_compare_37 : decode cX7_compare 37 = .ok (.iload 4, 2) := by decide +kernel
theorem dX7_compare_39 : decode cX7_compare 39 = .ok (.ifCond .eq 7, 3) := by decide +kernel
theorem dX7_compare_42 : decode cX7_compare 42 = .ok (.iconst 0, 1) := by decide +kernel
theorem dX7_compare_43 : decode cX7_compare 43 = .ok (.goto 4, 3) := by decide +kernel
theorem dX7_compare_46 : decode cX7_compare 46 = .ok (.iconst 1, 1) := by decide +kernel
theorem dX7_compare_47 : decode cX7_compare 47 = .ok (.ireturn, 1) := by decide +kernel
theorem dX7_compare_48 : decode cX7_compare 48 = .ok (.iload 4, 2) := by decide +kernel
theorem dX7_compare_50 : decode cX7_compare 50 = .ok (.ifCond .eq 7, 3) := by decide +kernel
theorem dX7_compare_53 : decode cX7_compare 53 = .ok (.iconst (-1), 1) := by decide +kernel
theorem dX7_compare_54 : decode cX7_compare 54 = .ok (.goto 4, 3) := by decide +kernel
theorem dX7_compare_57 : decode cX7_compare 57 = .ok (.iconst 2, 1) := by decide +kernel
theorem dX7_compare_58 : decode cX7_compare 58 = .ok (.ireturn, 1) := by decide +kernel
set_option maxRecDepth 20000 in
theorem ggX7_type_X7_faultOfRange : GoodIn wsX7_type wsX7_faultOfRange := goodIn_r _ [5] (by decide +kernel) (by decide +kernel)
set_option maxRecDepth 20000 in
theorem gX7_type_X7_faultOfRange : GoodIn wsX7_type (va_wsS RX7 83 yX7_faultOfRange wsX7_faultOfRange) := goodIn_app (goodIn_of _ (by decide +kernel)) ggX7_type_X7_faultOfRange
set_option maxRecDepth 20000 in
theorem ggX7_type_X7_refuse : GoodIn wsX7_type wsX7_refuse := goodIn_ca (goodIn_ca (goodIn_ca (goodIn_r _ [8, 9, 10, 11, 12, 13, 14] (by decide +kernel) (by decide +kernel)) (goodIn_sub (fun _ h => List.mem_cons_of_mem _ (List.mem_append_left _ (List.mem_append_left _ (List.mem_append_right _ h)))) (by decide +kernel))) (goodIn_sub (fun _ h => List.mem_cons_of_mem _ (List.mem_append_left _ (List.mem_append_right _ h))) (by decide +kernel))) (goodIn_sub (fun _ h => List.mem_cons_of_mem _ (List.mem_append_right _ h)) (by decide +kernel))
set_option maxRecDepth 20000 in
theorem gX7_type_X7_refuse : GoodIn wsX7_type (va_wsS RX7 79 yX7_refuse wsX7_refuse) := goodIn_app (goodIn_of _ (by decide +kernel)) ggX7_type_X7_refuse
set_option maxRecDepth 20000 in
theorem ggX7_type_X2_append : GoodIn wsX7_type wsX2_append := goodIn_r _ [19, 20, 21, 22, 23, 24, 25, 26, 27, 35, 36, 37, 38, 39, 40, 41] (by decide +kernel) (by decide +kernel)
set_option maxRecDepth 20000 in
theorem gX7_type_X2_append : GoodIn wsX7_type (wsV RX7 204 RX2 yX2_append wsX2_append) := goodIn_app (goodIn_of _ (by decide +kernel)) ggX7_type_X2_append
theorem dX7_type_0 : decode cX7_type 0 = .ok (.iload_n 1, 1) := by decide +kernel
theorem dX7_type_1 : decode cX7_type 1 = .ok (.iconst 0, 1) := by decide +kernel
theorem dX7_type_2 : decode cX7_type 2 = .ok (.bipush 127, 2) := by decide +kernel
theorem dX7_type_4 : decode cX7_type 4 = .ok (.invokestatic 83, 3) := by decide +kernel
theorem dX7_type_7 : decode cX7_type 7 = .ok (.invokestatic 79, 3) := by decide +kernel
theorem dX7_type_10 : decode cX7_type 10 = .ok (.aload_n 0, 1) := by decide +kernel
theorem dX7_type_11 : decode cX7_type 11 = .ok (.getfield 43, 3) := by decide +kernel
theorem dX7_type_14 : decode cX7_type 14 = .ok (.getfield 201, 3) := by decide +kernel
theorem dX7_type_17 : decode cX7_type 17 = .ok (.sipush 150, 3) := by decide +kernel
theorem dX7_type_20 : decode cX7_type 20 = .ok (.if_icmp .lt 7, 3) := by decide +kernel
theorem dX7_type_23 : decode cX7_type 23 = .ok (.iconst 3, 1) := by decide +kernel
theorem dX7_type_24 : decode cX7_type 24 = .ok (.goto 4, 3) := by decide +kernel
theorem dX7_type_27 : decode cX7_type 27 = .ok (.iconst 0, 1) := by decide +kernel
theorem dX7_type_28 : decode cX7_type 28 = .ok (.invokestatic 79, 3) := by decide +kernel
theorem dX7_type_31 : decode cX7_type 31 = .ok (.aload_n 0, 1) := by decide +kernel
theorem dX7_type_32 : decode cX7_type 32 = .ok (.getfield 43, 3) := by decide +kernel
theorem dX7_type_35 : decode cX7_type 35 = .ok (.iload_n 1, 1) := by decide +kernel
theorem dX7_type_36 : decode cX7_type 36 = .ok (.invokevirtual 204, 3) := by decide +kernel
theorem dX7_type_39 : decode cX7_type 39 = .ok (.ireturn, 1) := by decide +kernel
theorem dX7_clearCommands_0 : decode cX7_clearCommands 0 = .ok (.aload_n 0, 1) := by decide +kernel
theorem dX7_clearCommands_1 : decode cX7_clearCommands 1 = .ok (.getfield 43, 3) := by decide +kernel
theorem dX7_clearCommands_4 : decode cX7_clearCommands 4 = .ok (.getfield 201, 3) := by decide +kernel
theorem dX7_clearCommands_7 : decode cX7_clearCommands 7 = .ok (.istore_n 1, 1) := by decide +kernel
theorem dX7_clearCommands_8 : decode cX7_clearCommands 8 = .ok (.aload_n 0, 1) := by decide +kernel
theorem dX7_clearCommands_9 : decode cX7_clearCommands 9 = .ok (.getfield 43, 3) := by decide +kernel
theorem dX7_clearCommands_12 : decode cX7_clearCommands 12 = .ok (.iconst 0, 1) := by decide +kernel
theorem dX7_clearCommands_13 : decode cX7_clearCommands 13 = .ok (.putfield 201, 3) := by decide +kernel
theorem dX7_clearCommands_16 : decode cX7_clearCommands 16 = .ok (.iload_n 1, 1) := by decide +kernel
theorem dX7_clearCommands_17 : decode cX7_clearCommands 17 = .ok (.ireturn, 1) := by decide +kernel
set_option maxRecDepth 20000 in
theorem ggX7_runCommands_X2_findFault : GoodIn wsX7_runCommands wsX2_findFault := goodIn_r _ [9, 10, 11, 12, 13, 8, 14, 15, 16, 17, 18, 19, 20, 21, 22, 23, 24, 25, 26, 27, 28, 29, 30, 31, 32, 33, 34, 35, 36, 37, 38, 39, 40, 41, 42, 43, 44, 45, 46, 47, 48, 49, 50, 51, 52, 53, 54, 55, 56, 57, 58, 59, 60, 61, 62, 63, 64, 65, 66, 67, 68, 69, 70, 71, 72, 73, 74, 75, 76, 77, 78, 79, 80, 81, 82, 83, 84, 85, 86, 87, 88, 89, 90, 91, 92, 93, 94, 95, 96, 97, 98, 99, 100, 101, 102, 103, 104, 240, 241, 242, 243, 244, 245, 246] (by decide +kernel) (by decide +kernel)
set_option maxRecDepth 20000 in
theorem gX7_runCommands_X2_findFault : GoodIn wsX7_runCommands (wsV RX7 207 RX2 yX2_findFault wsX2_findFault) := goodIn_app (goodIn_of _ (by decide +kernel)) ggX7_runCommands_X2_findFault
set_option maxRecDepth 20000 in
theorem ggX7_runCommands_X5_keep : GoodIn wsX7_runCommands wsX5_keep := goodIn_r _ [109, 110, 111, 112, 113, 114, 115, 116, 117, 118, 108, 119, 120, 121, 122, 123, 124, 125, 126, 127, 128, 129, 130, 131, 132, 133, 134, 135, 28, 136, 30, 137, 26, 27, 29, 247, 248, 249, 250, 251, 252, 253, 254, 255, 256, 246] (by decide +kernel) (by decide +kernel)
set_option maxRecDepth 20000 in
theorem gX7_runCommands_X5_keep : GoodIn wsX7_runCommands (wsV RX7 210 RX5 yX5_keep wsX5_keep) := goodIn_app (goodIn_of _ (by decide +kernel)) ggX7_runCommands_X5_keep
set_option maxRecDepth 20000 in
theorem ggX7_runCommands_X7_carryOutText : GoodIn wsX7_runCommands wsX7_carryOutText := goodIn_r _ [142, 1, 3, 143, 12, 13, 8, 14, 10, 15, 16, 17, 18, 19, 20, 21, 22, 23, 24, 25, 26, 27, 28, 29, 30, 144, 32, 33, 34, 35, 36, 37, 38, 39, 40, 41, 42, 43, 44, 45, 46, 47, 48, 49, 50, 51, 52, 53, 54, 55, 56, 57, 58, 59, 60, 61, 62, 63, 64, 65, 66, 67, 68, 69, 70, 71, 72, 73, 74, 75, 76, 77, 78, 79, 80, 81, 82, 83, 84, 85, 86, 87, 88, 89, 90, 91, 92, 93, 94, 95, 96, 97, 98, 99, 100, 101, 102, 103, 104, 145, 146, 147, 124, 148, 149, 126, 130, 150, 151, 152, 153, 154, 155, 156, 157, 141, 158, 159, 160, 161, 162, 163, 164, 165, 166, 167, 168, 169, 170, 171, 172, 173, 174, 175, 176, 177, 178, 179, 180, 181, 128, 182, 183, 184, 185, 186, 187, 188, 189, 190, 191, 192, 193, 194, 195, 196, 197, 198, 199, 200, 201, 202, 127, 203, 204, 205, 206, 207, 208, 209, 210, 211, 212, 213, 214, 129, 215, 216, 217, 218, 219, 220, 221, 222, 223, 224, 225, 226, 227, 228, 131, 132, 229, 230, 231, 232, 233, 234, 235, 236, 237, 238, 239, 240, 241, 242, 243, 244, 245, 246, 250, 251, 252, 253, 254, 255, 256] (by decide +kernel) (by decide +kernel)
set_option maxRecDepth 20000 in
theorem gX7_runCommands_X7_carryOutText : GoodIn wsX7_runCommands (wsV RX7 213 RX7 yX7_carryOutText wsX7_carryOutText) := goodIn_app (goodIn_of _ (by decide +kernel)) ggX7_runCommands_X7_carryOutText
theorem dX7_runCommands_0 : decode cX7_runCommands 0 = .ok (.aload_n 0, 1) := by decide +kernel
theorem dX7_runCommands_1 : decode cX7_runCommands 1 = .ok (.getfield 43, 3) := by decide +kernel
theorem dX7_runCommands_4 : decode cX7_runCommands 4 = .ok (.invokevirtual 207, 3) := by decide +kernel
theorem dX7_runCommands_7 : decode cX7_runCommands 7 = .ok (.istore_n 1, 1) := by decide +kernel
theorem dX7_runCommands_8 : decode cX7_runCommands 8 = .ok (.iload_n 1, 1) := by decide +kernel
theorem dX7_runCommands_9 : decode cX7_runCommands 9 = .ok (.iconst (-1), 1) := by decide +kernel
theorem dX7_runCommands_10 : decode cX7_runCommands 10 = .ok (.if_icmp .eq 8, 3) := by decide +kernel
theorem dX7_runCommands_13 : decode cX7_runCommands 13 = .ok (.bipush (-10), 2) := by decide +kernel
theorem dX7_runCommands_15 : decode cX7_runCommands 15 = .ok (.iload_n 1, 1) := by decide +kernel
theorem dX7_runCommands_16 : decode cX7_runCommands 16 = .ok (.isub, 1) := by decide +kernel
theorem dX7_runCommands_17 : decode cX7_runCommands 17 = .ok (.ireturn, 1) := by decide +kernel
theorem dX7_runCommands_18 : decode cX7_runCommands 18 = .ok (.aload_n 0, 1) := by decide +kernel
theorem dX7_runCommands_19 : decode cX7_runCommands 19 = .ok (.getfield 36, 3) := by decide +kernel
theorem dX7_runCommands_22 : decode cX7_runCommands 22 = .ok (.aload_n 0, 1) := by decide +kernel
theorem dX7_runCommands_23 : decode cX7_runCommands 23 = .ok (.getfield 10, 3) := by decide +kernel
theorem dX7_runCommands_26 : decode cX7_runCommands 26 = .ok (.invokevirtual 210, 3) := by decide +kernel
theorem dX7_runCommands_29 : decode cX7_runCommands 29 = .ok (.aload_n 0, 1) := by decide +kernel
theorem dX7_runCommands_30 : decode cX7_runCommands 30 = .ok (.iconst 1, 1) := by decide +kernel
theorem dX7_runCommands_31 : decode cX7_runCommands 31 = .ok (.putfield 23, 3) := by decide +kernel
theorem dX7_runCommands_34 : decode cX7_runCommands 34 = .ok (.aload_n 0, 1) := by decide +kernel
theorem dX7_runCommands_35 : decode cX7_runCommands 35 = .ok (.invokevirtual 213, 3) := by decide +kernel
theorem dX7_runCommands_38 : decode cX7_runCommands 38 = .ok (.ireturn, 1) := by decide +kernel
set_option maxRecDepth 20000 in
theorem ggX7_undo_X7_refuse : GoodIn wsX7_undo wsX7_refuse := goodIn_ca (goodIn_ca (goodIn_ca (goodIn_r _ [7, 8, 9, 10, 11, 12, 13] (by decide +kernel) (by decide +kernel)) (goodIn_sub (fun _ h => List.mem_cons_of_mem _ (List.mem_append_left _ (List.mem_append_left _ (List.mem_append_right _ h)))) (by decide +kernel))) (goodIn_sub (fun _ h => List.mem_cons_of_mem _ (List.mem_append_left _ (List.mem_append_right _ h))) (by decide +kernel))) (goodIn_sub (fun _ h => List.mem_cons_of_mem _ (List.mem_append_right _ h)) (by decide +kernel))
set_option maxRecDepth 20000 in
theorem gX7_undo_X7_refuse : GoodIn wsX7_undo (va_wsS RX7 79 yX7_refuse wsX7_refuse) := goodIn_app (goodIn_of _ (by decide +kernel)) ggX7_undo_X7_refuse
set_option maxRecDepth 20000 in
theorem ggX7_undo_X5_giveBack : GoodIn wsX7_undo wsX5_giveBack := goodIn_r _ [18, 19, 20, 21, 22, 23, 24, 25, 26, 27, 17, 28, 29, 30, 31, 32, 33, 34, 35, 36, 37, 38, 39, 40, 41, 42, 43, 44, 45, 46, 47, 48, 49, 50, 51, 59, 60, 61, 62, 63, 64, 65, 66, 67, 68, 69] (by decide +kernel) (by decide +kernel)
set_option maxRecDepth 20000 in
theorem gX7_undo_X5_giveBack : GoodIn wsX7_undo (wsV RX7 219 RX5 yX5_giveBack wsX5_giveBack) := goodIn_app (goodIn_of _ (by decide +kernel)) ggX7_undo_X5_giveBack
theorem dX7_undo_0 : decode cX7_undo 0 = .ok (.aload_n 0, 1) := by decide +kernel
theorem dX7_undo_1 : decode cX7_undo 1 = .ok (.getfield 36, 3) := by decide +kernel
theorem dX7_undo_4 : decode cX7_undo 4 = .ok (.getfield 216, 3) := by decide +kernel
theorem dX7_undo_7 : decode cX7_undo 7 = .ok (.ifCond .ne 7, 3) := by decide +kernel
theorem dX7_undo_10 : decode cX7_undo 10 = .ok (.iconst 3, 1) := by decide +kernel
theorem dX7_undo_11 : decode cX7_undo 11 = .ok (.goto 4, 3) := by decide +kernel
theorem dX7_undo_14 : decode cX7_undo 14 = .ok (.iconst 0, 1) := by decide +kernel
theorem dX7_undo_15 : decode cX7_undo 15 = .ok (.invokestatic 79, 3) := by decide +kernel
theorem dX7_undo_18 : decode cX7_undo 18 = .ok (.aload_n 0, 1) := by decide +kernel
theorem dX7_undo_19 : decode cX7_undo 19 = .ok (.getfield 36, 3) := by decide +kernel
theorem dX7_undo_22 : decode cX7_undo 22 = .ok (.aload_n 0, 1) := by decide +kernel
theorem dX7_undo_23 : decode cX7_undo 23 = .ok (.getfield 10, 3) := by decide +kernel
theorem dX7_undo_26 : decode cX7_undo 26 = .ok (.invokevirtual 219, 3) := by decide +kernel
theorem dX7_undo_29 : decode cX7_undo 29 = .ok (.aload_n 0, 1) := by decide +kernel
theorem dX7_undo_30 : decode cX7_undo 30 = .ok (.iconst 1, 1) := by decide +kernel
theorem dX7_undo_31 : decode cX7_undo 31 = .ok (.putfield 23, 3) := by decide +kernel
theorem dX7_undo_34 : decode cX7_undo 34 = .ok (.aload_n 0, 1) := by decide +kernel
theorem dX7_undo_35 : decode cX7_undo 35 = .ok (.getfield 36, 3) := by decide +kernel
theorem dX7_undo_38 : decode cX7_undo 38 = .ok (.getfield 216, 3) := by decide +kernel
theorem dX7_undo_41 : decode cX7_undo 41 = .ok (.ireturn, 1) := by decide +kernel
set_option maxRecDepth 20000 in
theorem ggX7_digest_X7_measured : GoodIn wsX7_digest wsX7_measured := goodIn_r _ [8, 9, 10, 3, 11, 12, 13, 14, 15, 16, 17, 18, 19, 20, 21, 22, 23, 24, 25, 26, 27, 28, 29, 30, 31, 32, 33, 34, 35, 36, 37, 38, 39, 40, 41, 42, 43, 44, 45, 46, 47, 48, 49, 50, 51, 52, 53, 54, 55, 56, 57, 58, 59, 60, 61, 62, 63, 64, 65, 66, 67, 68, 69, 70, 71, 72, 73, 74, 75, 76, 77, 78, 79, 80, 81, 82, 83, 84, 85, 86, 87, 88, 89, 90, 7, 91, 92, 93, 94, 95, 96, 97, 98, 99, 100, 101, 102, 103, 104, 105, 106, 107, 108, 109, 110, 111, 112, 113, 114, 115, 116, 117, 118, 119, 120, 121, 185, 186, 187, 188, 189, 190, 191, 202, 203, 204, 205, 206, 207, 208, 209, 210, 211, 212, 213, 214, 195, 196, 197, 198, 199, 200, 201, 215] (by decide +kernel) (by decide +kernel)
set_option maxRecDepth 20000 in
theorem gX7_digest_X7_measured : GoodIn wsX7_digest (wsV RX7 87 RX7 yX7_measured wsX7_measured) := goodIn_app (goodIn_of _ (by decide +kernel)) ggX7_digest_X7_measured
set_option maxRecDepth 20000 in
theorem ggX7_digest_X7_mixed : GoodIn wsX7_digest wsX7_mixed := goodIn_r _ [124, 125] (by decide +kernel) (by decide +kernel)
set_option maxRecDepth 20000 in
theorem gX7_digest_X7_mixed : GoodIn wsX7_digest (va_wsS RX7 224 yX7_mixed wsX7_mixed) := goodIn_app (goodIn_of _ (by decide +kernel)) ggX7_digest_X7_mixed
set_option maxRecDepth 20000 in
theorem ggX7_digest_X7_wholeValue : GoodIn wsX7_digest wsX7_wholeValue := goodIn_r _ [129, 130, 3, 131, 132, 133, 27, 134, 29, 135, 76, 136, 25, 26, 28, 30, 31, 32, 33, 34, 35, 36, 37, 38, 39, 40, 41, 42, 43, 44, 83, 84, 85, 86, 87, 88, 89, 137, 69, 70, 71, 138, 93, 94, 95, 96, 90, 7, 91, 139, 140, 141, 142, 82, 143, 144, 145, 14, 146, 18, 20, 21, 147, 148, 149, 150, 16, 22, 58, 151, 152, 153, 154, 19, 185, 186, 187, 188, 189, 190, 191, 216, 217, 218, 219, 220, 221, 195, 196, 197, 198, 199, 200, 201, 215, 202, 203, 204, 205, 206, 207, 208, 209, 210, 211, 212, 213, 214] (by decide +kernel) (by decide +kernel)
set_option maxRecDepth 20000 in
theorem gX7_digest_X7_wholeValue : GoodIn wsX7_digest (wsV RX7 102 RX7 yX7_wholeValue wsX7_wholeValue) := goodIn_app (goodIn_of _ (by decide +kernel)) ggX7_digest_X7_wholeValue
set_option maxRecDepth 20000 in
theorem ggX7_digest_X7_memberValue : GoodIn wsX7_digest wsX7_memberValue := goodIn_r _ [158, 3, 159, 160, 161, 27, 162, 96, 34, 39, 40, 41, 42, 43, 44, 30, 31, 32, 33, 35, 36, 37, 38, 29, 163, 55, 56, 57, 83, 84, 85, 86, 87, 88, 89, 138, 93, 94, 95, 90, 7, 91, 164, 165, 166, 14, 167, 22, 23, 58, 147, 148, 149, 150, 16, 151, 152, 153, 154, 18, 19, 185, 186, 187, 188, 189, 190, 191, 195, 196, 197, 198, 199, 200, 201, 215, 202, 203, 204, 205, 206, 207, 208, 209, 210, 211, 212, 213, 214] (by decide +kernel) (by decide +kernel)
set_option maxRecDepth 20000 in
theorem gX7_digest_X7_memberValue : GoodIn wsX7_digest (wsV RX7 91 RX7 yX7_memberValue wsX7_memberValue) := goodIn_app (goodIn_of _ (by decide +kernel)) ggX7_digest_X7_memberValue
set_option maxRecDepth 20000 in
theorem ggX7_digest_X3_shareOf : GoodIn wsX7_digest wsX3_shareOf := goodIn_r _ [171, 21, 22, 58, 40, 41, 42, 43, 44, 202, 203, 204, 205, 206, 207, 208, 209, 210, 211, 212, 213, 214, 215] (by decide +kernel) (by decide +kernel)
set_option maxRecDepth 20000 in
theorem gX7_digest_X3_shareOf : GoodIn wsX7_digest (wsV RX7 126 RX3 yX3_shareOf wsX3_shareOf) := goodIn_app (goodIn_of _ (by decide +kernel)) ggX7_digest_X3_shareOf
set_option maxRecDepth 20000 in
theorem ggX7_digest_X7_bitsOf : GoodIn wsX7_digest wsX7_bitsOf := goodIn_r _ [174, 175] (by decide +kernel) (by decide +kernel)
set_option maxRecDepth 20000 in
theorem gX7_digest_X7_bitsOf : GoodIn wsX7_digest (va_wsS RX7 231 yX7_bitsOf wsX7_bitsOf) := goodIn_app (goodIn_of _ (by decide +kernel)) ggX7_digest_X7_bitsOf
set_option maxRecDepth 20000 in
theorem ggX7_digest_X3_partOf : GoodIn wsX7_digest wsX3_partOf := goodIn_r _ [179, 23, 114, 115, 116, 14, 117, 16, 110, 84, 85, 86, 87, 88, 89, 111, 7, 112, 113, 58, 40, 41, 42, 43, 44, 202, 203, 204, 205, 206, 207, 208, 209, 210, 211, 212, 213, 214, 215] (by decide +kernel) (by decide +kernel)
set_option maxRecDepth 20000 in
theorem gX7_digest_X3_partOf : GoodIn wsX7_digest (wsV RX7 130 RX3 yX3_partOf wsX3_partOf) := goodIn_app (goodIn_of _ (by decide +kernel)) ggX7_digest_X3_partOf
set_option maxRecDepth 20000 in
theorem ggX7_digest_X6_ruleValue : GoodIn wsX7_digest wsX6_ruleValue := goodIn_r _ [183, 82, 81, 39, 40, 41, 42, 43, 44, 137, 69, 70, 27, 71, 29, 77, 78, 79, 80, 83, 84, 85, 86, 87, 88, 89, 90, 7, 91, 195, 196, 197, 198, 199, 200, 201, 215] (by decide +kernel) (by decide +kernel)
set_option maxRecDepth 20000 in
theorem gX7_digest_X6_ruleValue : GoodIn wsX7_digest (wsV RX7 98 RX6 yX6_ruleValue wsX6_ruleValue) := goodIn_app (goodIn_of _ (by decide +kernel)) ggX7_digest_X6_ruleValue
set_option maxRecDepth 20000 in
theorem ggX7_digest_X4_at : GoodIn wsX7_digest wsX4_at := goodIn_r _ [43, 44, 215] (by decide +kernel) (by decide +kernel)
set_option maxRecDepth 20000 in
theorem gX7_digest_X4_at : GoodIn wsX7_digest (wsV RX7 121 RX4 yX4_at wsX4_at) := goodIn_app (goodIn_of _ (by decide +kernel)) ggX7_digest_X4_at
theorem dX7_digest_0 : decode cX7_digest 0 = .ok (.aload_n 0, 1) := by decide +kernel
theorem dX7_digest_1 : decode cX7_digest 1 = .ok (.invokevirtual 87, 3) := by decide +kernel
theorem dX7_digest_4 : decode cX7_digest 4 = .ok (.astore_n 1, 1) := by decide +kernel
theorem dX7_digest_5 : decode cX7_digest 5 = .ok (.ldc2_w 222, 3) := by decide +kernel
theorem dX7_digest_8 : decode cX7_digest 8 = .ok (.aload_n 0, 1) := by decide +kernel
theorem dX7_digest_9 : decode cX7_digest 9 = .ok (.getfield 36, 3) := by decide +kernel
theorem dX7_digest_12 : decode cX7_digest 12 = .ok (.getfield 216, 3) := by decide +kernel
theorem dX7_digest_15 : decode cX7_digest 15 = .ok (.i2l, 1) := by decide +kernel
theorem dX7_digest_16 : decode cX7_digest 16 = .ok (.invokestatic 224, 3) := by decide +kernel
theorem dX7_digest_19 : decode cX7_digest 19 = .ok (.lstore_n 2, 1) := by decide +kernel
theorem dX7_digest_20 : decode cX7_digest 20 = .ok (.iconst 0, 1) := by decide +kernel
theorem dX7_digest_21 : decode cX7_digest 21 = .ok (.istore 4, 2) := by decide +kernel
theorem dX7_digest_23 : decode cX7_digest 23 = .ok (.iload 4, 2) := by decide +kernel
theorem dX7_digest_25 : decode cX7_digest 25 = .ok (.bipush 11, 2) := by decide +kernel
theorem dX7_digest_27 : decode cX7_digest 27 = .ok (.if_icmp .gt 22, 3) := by decide +kernel
theorem dX7_digest_30 : decode cX7_digest 30 = .ok (.lload_n 2, 1) := by decide +kernel
theorem dX7_digest_31 : decode cX7_digest 31 = .ok (.aload_n 0, 1) := by decide +kernel
theorem dX7_digest_32 : decode cX7_digest 32 = .ok (.aload_n 1, 1) := by decide +kernel
theorem dX7_digest_33 : decode cX7_digest 33 = .ok (.iload 4, 2) := by decide +kernel
theorem dX7_digest_35 : decode cX7_digest 35 = .ok (.invokevirtual 102, 3) := by decide +kernel
theorem dX7_digest_38 : decode cX7_digest 38 = .ok (.i2l, 1) := by decide +kernel
theorem dX7_digest_39 : decode cX7_digest 39 = .ok (.invokestatic 224, 3) := by decide +kernel
theorem dX7_digest_42 : decode cX7_digest 42 = .ok (.lstore_n 2, 1) := by decide +kernel
theorem dX7_digest_43 : decode cX7_digest 43 = .ok (.iinc 4 1, 3) := by decide +kernel
theorem dX7_digest_46 : decode cX7_digest 46 = .ok (.goto (-23), 3) := by decide +kernel
theorem dX7_digest_49 : decode cX7_digest 49 = .ok (.iconst 0, 1) := by decide +kernel
theorem dX7_digest_50 : decode cX7_digest 50 = .ok (.istore 4, 2) := by decide +kernel
theorem dX7_digest_52 : decode cX7_digest 52 = .ok (.iload 4, 2) := by decide +kernel
theorem dX7_digest_54 : decode cX7_digest 54 = .ok (.aload_n 0, 1) := by decide +kernel
theorem dX7_digest_55 : decode cX7_digest 55 = .ok (.getfield 10, 3) := by decide +kernel
theorem dX7_digest_58 : decode cX7_digest 58 = .ok (.getfield 228, 3) := by decide +kernel
theorem dX7_digest_61 : decode cX7_digest 61 = .ok (.if_icmp .ge 78, 3) := by decide +kernel
theorem dX7_digest_64 : decode cX7_digest 64 = .ok (.iconst 0, 1) := by decide +kernel
theorem dX7_digest_65 : decode cX7_digest 65 = .ok (.istore 5, 2) := by decide +kernel
theorem dX7_digest_67 : decode cX7_digest 67 = .ok (.iload 5, 2) := by decide +kernel
theorem dX7_digest_69 : decode cX7_digest 69 = .ok (.bipush 7, 2) := by decide +kernel
theorem dX7_digest_71 : decode cX7_digest 71 = .ok (.if_icmp .gt 24, 3) := by decide +kernel
theorem dX7_digest_74 : decode cX7_digest 74 = .ok (.lload_n 2, 1) := by decide +kernel
theorem dX7_digest_75 : decode cX7_digest 75 = .ok (.aload_n 0, 1) := by decide +kernel
theorem dX7_digest_76 : decode cX7_digest 76 = .ok (.aload_n 1, 1) := by decide +kernel
theorem dX7_digest_77 : decode cX7_digest 77 = .ok (.iload 4, 2) := by decide +kernel
theorem dX7_digest_79 : decode cX7_digest 79 = .ok (.iload 5, 2) := by decide +kernel
theorem dX7_digest_81 : decode cX7_digest 81 = .ok (.invokevirtual 91, 3) := by decide +kernel
theorem dX7_digest_84 : decode cX7_digest 84 = .ok (.i2l, 1) := by decide +kernel
theorem dX7_digest_85 : decode cX7_digest 85 = .ok (.invokestatic 224, 3) := by decide +kernel
theorem dX7_digest_88 : decode cX7_digest 88 = .ok (.lstore_n 2, 1) := by decide +kernel
theorem dX7_digest_89 : decode cX7_digest 89 = .ok (.iinc 5 1, 3) := by decide +kernel
theorem dX7_digest_92 : decode cX7_digest 92 = .ok (.goto (-25), 3) := by decide +kernel
theorem dX7_digest_95 : decode cX7_digest 95 = .ok (.lload_n 2, 1) := by decide +kernel
theorem dX7_digest_96 : decode cX7_digest 96 = .ok (.aload_n 1, 1) := by decide +kernel
theorem dX7_digest_97 : decode cX7_digest 97 = .ok (.iload 4, 2) := by decide +kernel
theorem dX7_digest_99 : decode cX7_digest 99 = .ok (.invokevirtual 126, 3) := by decide +kernel
theorem dX7_digest_102 : decode cX7_digest 102 = .ok (.f2d, 1) := by decide +kernel
theorem dX7_digest_103 : decode cX7_digest 103 = .ok (.bipush 127, 2) := by decide +kernel
theorem dX7_digest_105 : decode cX7_digest 105 = .ok (.bipush 23, 2) := by decide +kernel
theorem dX7_digest_107 : decode cX7_digest 107 = .ok (.invokestatic 231, 3) := by decide +kernel
theorem dX7_digest_110 : decode cX7_digest 110 = .ok (.invokestatic 224, 3) := by decide +kernel
theorem dX7_digest_113 : decode cX7_digest 113 = .ok (.lstore_n 2, 1) := by decide +kernel
theorem dX7_digest_114 : decode cX7_digest 114 = .ok (.lload_n 2, 1) := by decide +kernel
theorem dX7_digest_115 : decode cX7_digest 115 = .ok (.aload_n 1, 1) := by decide +kernel
theorem dX7_digest_116 : decode cX7_digest 116 = .ok (.iload 4, 2) := by decide +kernel
theorem dX7_digest_118 : decode cX7_digest 118 = .ok (.invokevirtual 130, 3) := by decide +kernel
theorem dX7_digest_121 : decode cX7_digest 121 = .ok (.sipush 1023, 3) := by decide +kernel
theorem dX7_digest_124 : decode cX7_digest 124 = .ok (.bipush 52, 2) := by decide +kernel
theorem dX7_digest_126 : decode cX7_digest 126 = .ok (.invokestatic 231, 3) := by decide +kernel
theorem dX7_digest_129 : decode cX7_digest 129 = .ok (.invokestatic 224, 3) := by decide +kernel
theorem dX7_digest_132 : decode cX7_digest 132 = .ok (.lstore_n 2, 1) := by decide +kernel
theorem dX7_digest_133 : decode cX7_digest 133 = .ok (.iinc 4 1, 3) := by decide +kernel
theorem dX7_digest_136 : decode cX7_digest 136 = .ok (.goto (-84), 3) := by decide +kernel
theorem dX7_digest_139 : decode cX7_digest 139 = .ok (.iconst 0, 1) := by decide +kernel
theorem dX7_digest_140 : decode cX7_digest 140 = .ok (.istore 4, 2) := by decide +kernel
theorem dX7_digest_142 : decode cX7_digest 142 = .ok (.iload 4, 2) := by decide +kernel
theorem dX7_digest_144 : decode cX7_digest 144 = .ok (.aload_n 0, 1) := by decide +kernel
theorem dX7_digest_145 : decode cX7_digest 145 = .ok (.getfield 10, 3) := by decide +kernel
theorem dX7_digest_148 : decode cX7_digest 148 = .ok (.getfield 235, 3) := by decide +kernel
theorem dX7_digest_151 : decode cX7_digest 151 = .ok (.if_icmp .ge 41, 3) := by decide +kernel
theorem dX7_digest_154 : decode cX7_digest 154 = .ok (.iconst 0, 1) := by decide +kernel
theorem dX7_digest_155 : decode cX7_digest 155 = .ok (.istore 5, 2) := by decide +kernel
theorem dX7_digest_157 : decode cX7_digest 157 = .ok (.iload 5, 2) := by decide +kernel
theorem dX7_digest_159 : decode cX7_digest 159 = .ok (.iconst 2, 1) := by decide +kernel
theorem dX7_digest_160 : decode cX7_digest 160 = .ok (.if_icmp .gt 26, 3) := by decide +kernel
theorem dX7_digest_163 : decode cX7_digest 163 = .ok (.lload_n 2, 1) := by decide +kernel
theorem dX7_digest_164 : decode cX7_digest 164 = .ok (.aload_n 0, 1) := by decide +kernel
theorem dX7_digest_165 : decode cX7_digest 165 = .ok (.getfield 10, 3) := by decide +kernel
theorem dX7_digest_168 : decode cX7_digest 168 = .ok (.iload 4, 2) := by decide +kernel
theorem dX7_digest_170 : decode cX7_digest 170 = .ok (.iload 5, 2) := by decide +kernel
theorem dX7_digest_172 : decode cX7_digest 172 = .ok (.invokevirtual 98, 3) := by decide +kernel
theorem dX7_digest_175 : decode cX7_digest 175 = .ok (.i2l, 1) := by decide +kernel
theorem dX7_digest_176 : decode cX7_digest 176 = .ok (.invokestatic 224, 3) := by decide +kernel
theorem dX7_digest_179 : decode cX7_digest 179 = .ok (.lstore_n 2, 1) := by decide +kernel
theorem dX7_digest_180 : decode cX7_digest 180 = .ok (.iinc 5 1, 3) := by decide +kernel
theorem dX7_digest_183 : decode cX7_digest 183 = .ok (.goto (-26), 3) := by decide +kernel
theorem dX7_digest_186 : decode cX7_digest 186 = .ok (.iinc 4 1, 3) := by decide +kernel
theorem dX7_digest_189 : decode cX7_digest 189 = .ok (.goto (-47), 3) := by decide +kernel
theorem dX7_digest_192 : decode cX7_digest 192 = .ok (.iconst 0, 1) := by decide +kernel
theorem dX7_digest_193 : decode cX7_digest 193 = .ok (.istore 4, 2) := by decide +kernel
theorem dX7_digest_195 : decode cX7_digest 195 = .ok (.iload 4, 2) := by decide +kernel
theorem dX7_digest_197 : decode cX7_digest 197 = .ok (.aload_n 1, 1) := by decide +kernel
theorem dX7_digest_198 : decode cX7_digest 198 = .ok (.getfield 113, 3) := by decide +kernel
theorem dX7_digest_201 : decode cX7_digest 201 = .ok (.if_icmp .ge 24, 3) := by decide +kernel
theorem dX7_digest_204 : decode cX7_digest 204 = .ok (.lload_n 2, 1) := by decide +kernel
theorem dX7_digest_205 : decode cX7_digest 205 = .ok (.aload_n 1, 1) := by decide +kernel
theorem dX7_digest_206 : decode cX7_digest 206 = .ok (.getfield 117, 3) := by decide +kernel
theorem dX7_digest_209 : decode cX7_digest 209 = .ok (.iload 4, 2) := by decide +kernel
theorem dX7_digest_211 : decode cX7_digest 211 = .ok (.invokevirtual 121, 3) := by decide +kernel
theorem dX7_digest_214 : decode cX7_digest 214 = .ok (.i2l, 1) := by decide +kernel
theorem dX7_digest_215 : decode cX7_digest 215 = .ok (.invokestatic 224, 3) := by decide +kernel
theorem dX7_digest_218 : decode cX7_digest 218 = .ok (.lstore_n 2, 1) := by decide +kernel
theorem dX7_digest_219 : decode cX7_digest 219 = .ok (.iinc 4 1, 3) := by decide +kernel
theorem dX7_digest_222 : decode cX7_digest 222 = .ok (.goto (-27), 3) := by decide +kernel
theorem dX7_digest_225 : decode cX7_digest 225 = .ok (.lload_n 2, 1) := by decide +kernel
theorem dX7_digest_226 : decode cX7_digest 226 = .ok (.lreturn, 1) := by decide +kernel
theorem dX7_refuse_0 : decode cX7_refuse 0 = .ok (.iload_n 0, 1) := by decide +kernel
theorem dX7_refuse_1 : decode cX7_refuse 1 = .ok (.iconst 1, 1) := by decide +kernel
theorem dX7_refuse_2 : decode cX7_refuse 2 = .ok (.if_icmp .ne 13, 3) := by decide +kernel
theorem dX7_refuse_5 : decode cX7_refuse 5 = .ok (.new 238, 3) := by decide +kernel
theorem dX7_refuse_8 : decode cX7_refuse 8 = .ok (.dup, 1) := by decide +kernel
theorem dX7_refuse_9 : decode cX7_refuse 9 = .ok (.ldc 240, 2) := by decide +kernel
theorem dX7_refuse_11 : decode cX7_refuse 11 = .ok (.invokespecial 242, 3) := by decide +kernel
theorem dX7_refuse_14 : decode cX7_refuse 14 = .ok (.athrow, 1) := by decide +kernel
theorem dX7_refuse_15 : decode cX7_refuse 15 = .ok (.iload_n 0, 1) := by decide +kernel
theorem dX7_refuse_16 : decode cX7_refuse 16 = .ok (.iconst 2, 1) := by decide +kernel
theorem dX7_refuse_17 : decode cX7_refuse 17 = .ok (.if_icmp .ne 13, 3) := by decide +kernel
theorem dX7_refuse_20 : decode cX7_refuse 20 = .ok (.new 245, 3) := by decide +kernel
theorem dX7_refuse_23 : decode cX7_refuse 23 = .ok (.dup, 1) := by decide +kernel
theorem dX7_refuse_24 : decode cX7_refuse 24 = .ok (.ldc 247, 2) := by decide +kernel
theorem dX7_refuse_26 : decode cX7_refuse 26 = .ok (.invokespecial 249, 3) := by decide +kernel
theorem dX7_refuse_29 : decode cX7_refuse 29 = .ok (.athrow, 1) := by decide +kernel
theorem dX7_refuse_30 : decode cX7_refuse 30 = .ok (.iload_n 0, 1) := by decide +kernel
theorem dX7_refuse_31 : decode cX7_refuse 31 = .ok (.iconst 3, 1) := by decide +kernel
theorem dX7_refuse_32 : decode cX7_refuse 32 = .ok (.if_icmp .ne 13, 3) := by decide +kernel
theorem dX7_refuse_35 : decode cX7_refuse 35 = .ok (.new 250, 3) := by decide +kernel
theorem dX7_refuse_38 : decode cX7_refuse 38 = .ok (.dup, 1) := by decide +kernel
theorem dX7_refuse_39 : decode cX7_refuse 39 = .ok (.ldc 252, 2) := by decide +kernel
theorem dX7_refuse_41 : decode cX7_refuse 41 = .ok (.invokespecial 254, 3) := by decide +kernel
theorem dX7_refuse_44 : decode cX7_refuse 44 = .ok (.athrow, 1) := by decide +kernel
theorem dX7_refuse_45 : decode cX7_refuse 45 = .ok (.return_, 1) := by decide +kernel
theorem dX7_faultOfRange_0 : decode cX7_faultOfRange 0 = .ok (.iload_n 0, 1) := by decide +kernel
theorem dX7_faultOfRange_1 : decode cX7_faultOfRange 1 = .ok (.iload_n 1, 1) := by decide +kernel
theorem dX7_faultOfRange_2 : decode cX7_faultOfRange 2 = .ok (.if_icmp .lt 8, 3) := by decide +kernel
theorem dX7_faultOfRange_5 : decode cX7_faultOfRange 5 = .ok (.iload_n 0, 1) := by decide +kernel
theorem dX7_faultOfRange_6 : decode cX7_faultOfRange 6 = .ok (.iload_n 2, 1) := by decide +kernel
theorem dX7_faultOfRange_7 : decode cX7_faultOfRange 7 = .ok (.if_icmp .le 7, 3) := by decide +kernel
theorem dX7_faultOfRange_10 : decode cX7_faultOfRange 10 = .ok (.iconst 2, 1) := by decide +kernel
theorem dX7_faultOfRange_11 : decode cX7_faultOfRange 11 = .ok (.goto 4, 3) := by decide +kernel
theorem dX7_faultOfRange_14 : decode cX7_faultOfRange 14 = .ok (.iconst 0, 1) := by decide +kernel
theorem dX7_faultOfRange_15 : decode cX7_faultOfRange 15 = .ok (.ireturn, 1) := by decide +kernel
theorem dX7_contains_0 : decode cX7_contains 0 = .ok (.iload_n 0, 1) := by decide +kernel
theorem dX7_contains_1 : decode cX7_contains 1 = .ok (.iload_n 1, 1) := by decide +kernel
theorem dX7_contains_2 : decode cX7_contains 2 = .ok (.ishr, 1) := by decide +kernel
theorem dX7_contains_3 : decode cX7_contains 3 = .ok (.iconst 1, 1) := by decide +kernel
theorem dX7_contains_4 : decode cX7_contains 4 = .ok (.iand, 1) := by decide +kernel
theorem dX7_contains_5 : decode cX7_contains 5 = .ok (.iconst 1, 1) := by decide +kernel
theorem dX7_contains_6 : decode cX7_contains 6 = .ok (.if_icmp .ne 7, 3) := by decide +kernel
theorem dX7_contains_9 : decode cX7_contains 9 = .ok (.iconst 1, 1) := by decide +kernel
theorem dX7_contains_10 : decode cX7_contains 10 = .ok (.goto 4, 3) := by decide +kernel
theorem dX7_contains_13 : decode cX7_contains 13 = .ok (.iconst 0, 1) := by decide +kernel
theorem dX7_contains_14 : decode cX7_contains 14 = .ok (.ireturn, 1) := by decide +kernel
theorem dX7_factorial_0 : decode cX7_factorial 0 = .ok (.iload_n 0, 1) := by decide +kernel
theorem dX7_factorial_1 : decode cX7_factorial 1 = .ok (.ifCond .lt 19, 3) := by decide +kernel
theorem dX7_factorial_4 : decode cX7_factorial 4 = .ok (.iload_n 0, 1) := by decide +kernel
theorem dX7_factorial_5 : decode cX7_factorial 5 = .ok (.getstatic 255, 3) := by decide +kernel
theorem dX7_factorial_8 : decode cX7_factorial 8 = .ok (.arraylength, 1) := by decide +kernel
theorem dX7_factorial_9 : decode cX7_factorial 9 = .ok (.if_icmp .ge 11, 3) := by decide +kernel
theorem dX7_factorial_12 : decode cX7_factorial 12 = .ok (.getstatic 255, 3) := by decide +kernel
theorem dX7_factorial_15 : decode cX7_factorial 15 = .ok (.iload_n 0, 1) := by decide +kernel
theorem dX7_factorial_16 : decode cX7_factorial 16 = .ok (.iaload, 1) := by decide +kernel
theorem dX7_factorial_17 : decode cX7_factorial 17 = .ok (.goto 4, 3) := by decide +kernel
theorem dX7_factorial_20 : decode cX7_factorial 20 = .ok (.iconst 0, 1) := by decide +kernel
theorem dX7_factorial_21 : decode cX7_factorial 21 = .ok (.ireturn, 1) := by decide +kernel
theorem dX7_mixed_0 : decode cX7_mixed 0 = .ok (.ldc2_w 259, 3) := by decide +kernel
theorem dX7_mixed_3 : decode cX7_mixed 3 = .ok (.lload_n 0, 1) := by decide +kernel
theorem dX7_mixed_4 : decode cX7_mixed 4 = .ok (.lmul, 1) := by decide +kernel
theorem dX7_mixed_5 : decode cX7_mixed 5 = .ok (.lload_n 2, 1) := by decide +kernel
theorem dX7_mixed_6 : decode cX7_mixed 6 = .ok (.ladd, 1) := by decide +kernel
theorem dX7_mixed_7 : decode cX7_mixed 7 = .ok (.lreturn, 1) := by decide +kernel
theorem dX7_bitsOf_0 : decode cX7_bitsOf 0 = .ok (.dload_n 0, 1) := by decide +kernel
theorem dX7_bitsOf_1 : decode cX7_bitsOf 1 = .ok (.dconst 0, 1) := by decide +kernel
theorem dX7_bitsOf_2 : decode cX7_bitsOf 2 = .ok (.dcmp .l, 1) := by decide +kernel
theorem dX7_bitsOf_3 : decode cX7_bitsOf 3 = .ok (.ifCond .gt 5, 3) := by decide +kernel
theorem dX7_bitsOf_6 : decode cX7_bitsOf 6 = .ok (.lconst 0, 1) := by decide +kernel
theorem dX7_bitsOf_7 : decode cX7_bitsOf 7 = .ok (.lreturn, 1) := by decide +kernel
theorem dX7_bitsOf_8 : decode cX7_bitsOf 8 = .ok (.dload_n 0, 1) := by decide +kernel
theorem dX7_bitsOf_9 : decode cX7_bitsOf 9 = .ok (.dstore 4, 2) := by decide +kernel
theorem dX7_bitsOf_11 : decode cX7_bitsOf 11 = .ok (.iconst 0, 1) := by decide +kernel
theorem dX7_bitsOf_12 : decode cX7_bitsOf 12 = .ok (.istore 6, 2) := by decide +kernel
theorem dX7_bitsOf_14 : decode cX7_bitsOf 14 = .ok (.iload 6, 2) := by decide +kernel
theorem dX7_bitsOf_16 : decode cX7_bitsOf 16 = .ok (.sipush 1100, 3) := by decide +kernel
theorem dX7_bitsOf_19 : decode cX7_bitsOf 19 = .ok (.if_icmp .ge 24, 3) := by decide +kernel
theorem dX7_bitsOf_22 : decode cX7_bitsOf 22 = .ok (.dload 4, 2) := by decide +kernel
theorem dX7_bitsOf_24 : decode cX7_bitsOf 24 = .ok (.dconst 1, 1) := by decide +kernel
theorem dX7_bitsOf_25 : decode cX7_bitsOf 25 = .ok (.dcmp .g, 1) := by decide +kernel
theorem dX7_bitsOf_26 : decode cX7_bitsOf 26 = .ok (.ifCond .ge 17, 3) := by decide +kernel
theorem dX7_bitsOf_29 : decode cX7_bitsOf 29 = .ok (.dload 4, 2) := by decide +kernel
theorem dX7_bitsOf_31 : decode cX7_bitsOf 31 = .ok (.ldc2_w 261, 3) := by decide +kernel
theorem dX7_bitsOf_34 : decode cX7_bitsOf 34 = .ok (.dmul, 1) := by decide +kernel
theorem dX7_bitsOf_35 : decode cX7_bitsOf 35 = .ok (.dstore 4, 2) := by decide +kernel
theorem dX7_bitsOf_37 : decode cX7_bitsOf 37 = .ok (.iinc 6 1, 3) := by decide +kernel
theorem dX7_bitsOf_40 : decode cX7_bitsOf 40 = .ok (.goto (-26), 3) := by decide +kernel
theorem dX7_bitsOf_43 : decode cX7_bitsOf 43 = .ok (.dload 4, 2) := by decide +kernel
theorem dX7_bitsOf_45 : decode cX7_bitsOf 45 = .ok (.dconst 1, 1) := by decide +kernel
theorem dX7_bitsOf_46 : decode cX7_bitsOf 46 = .ok (.dsub, 1) := by decide +kernel
theorem dX7_bitsOf_47 : decode cX7_bitsOf 47 = .ok (.lconst 1, 1) := by decide +kernel
theorem dX7_bitsOf_48 : decode cX7_bitsOf 48 = .ok (.iload_n 3, 1) := by decide +kernel
theorem dX7_bitsOf_49 : decode cX7_bitsOf 49 = .ok (.lshl, 1) := by decide +kernel
theorem dX7_bitsOf_50 : decode cX7_bitsOf 50 = .ok (.l2d, 1) := by decide +kernel
theorem dX7_bitsOf_51 : decode cX7_bitsOf 51 = .ok (.dmul, 1) := by decide +kernel
theorem dX7_bitsOf_52 : decode cX7_bitsOf 52 = .ok (.d2l, 1) := by decide +kernel
theorem dX7_bitsOf_53 : decode cX7_bitsOf 53 = .ok (.lstore 7, 2) := by decide +kernel
theorem dX7_bitsOf_55 : decode cX7_bitsOf 55 = .ok (.iload_n 2, 1) := by decide +kernel
theorem dX7_bitsOf_56 : decode cX7_bitsOf 56 = .ok (.iload 6, 2) := by decide +kernel
theorem dX7_bitsOf_58 : decode cX7_bitsOf 58 = .ok (.isub, 1) := by decide +kernel
theorem dX7_bitsOf_59 : decode cX7_bitsOf 59 = .ok (.i2l, 1) := by decide +kernel
theorem dX7_bitsOf_60 : decode cX7_bitsOf 60 = .ok (.iload_n 3, 1) := by decide +kernel
theorem dX7_bitsOf_61 : decode cX7_bitsOf 61 = .ok (.lshl, 1) := by decide +kernel
theorem dX7_bitsOf_62 : decode cX7_bitsOf 62 = .ok (.lload 7, 2) := by decide +kernel
theorem dX7_bitsOf_64 : decode cX7_bitsOf 64 = .ok (.ladd, 1) := by decide +kernel
theorem dX7_bitsOf_65 : decode cX7_bitsOf 65 = .ok (.lreturn, 1) := by decide +kernel
set_option maxRecDepth 20000 in
theorem ggX7_memberValue_X6_memberValue : GoodIn wsX7_memberValue wsX6_memberValue := goodIn_r _ [6, 7, 8, 9, 10, 11, 12, 13, 14, 15, 16, 17, 5, 18, 19, 20, 21, 22, 23, 24, 25, 26, 27, 28, 29, 30, 31, 32, 33, 34, 35, 36, 37, 38, 39, 40, 41, 68, 69, 70, 71, 72, 73, 74, 75] (by decide +kernel) (by decide +kernel)
set_option maxRecDepth 20000 in
theorem gX7_memberValue_X6_memberValue : GoodIn wsX7_memberValue (wsV RX7 263 RX6 yX6_memberValue wsX6_memberValue) := goodIn_app (goodIn_of _ (by decide +kernel)) ggX7_memberValue_X6_memberValue
set_option maxRecDepth 20000 in
theorem ggX7_memberValue_X3_memberValue : GoodIn wsX7_memberValue wsX3_memberValue := goodIn_r _ [46, 47, 48, 49, 10, 11, 12, 13, 14, 50, 51, 52, 45, 53, 54, 39, 40, 41, 55, 56, 57, 58, 59, 60, 76, 77, 78, 79, 80, 81, 82, 83, 84, 85, 86, 87, 88, 75] (by decide +kernel) (by decide +kernel)
set_option maxRecDepth 20000 in
theorem gX7_memberValue_X3_memberValue : GoodIn wsX7_memberValue (wsV RX7 265 RX3 yX3_memberValue wsX3_memberValue) := goodIn_app (goodIn_of _ (by decide +kernel)) ggX7_memberValue_X3_memberValue
theorem dX7_memberValue_0 : decode cX7_memberValue 0 = .ok (.iload_n 3, 1) := by decide +kernel
theorem dX7_memberValue_1 : decode cX7_memberValue 1 = .ok (.iconst 4, 1) := by decide +kernel
theorem dX7_memberValue_2 : decode cX7_memberValue 2 = .ok (.if_icmp .ge 15, 3) := by decide +kernel
theorem dX7_memberValue_5 : decode cX7_memberValue 5 = .ok (.aload_n 0, 1) := by decide +kernel
theorem dX7_memberValue_6 : decode cX7_memberValue 6 = .ok (.getfield 10, 3) := by decide +kernel
theorem dX7_memberValue_9 : decode cX7_memberValue 9 = .ok (.iload_n 2, 1) := by decide +kernel
theorem dX7_memberValue_10 : decode cX7_memberValue 10 = .ok (.iload_n 3, 1) := by decide +kernel
theorem dX7_memberValue_11 : decode cX7_memberValue 11 = .ok (.invokevirtual 263, 3) := by decide +kernel
theorem dX7_memberValue_14 : decode cX7_memberValue 14 = .ok (.goto 9, 3) := by decide +kernel
theorem dX7_memberValue_17 : decode cX7_memberValue 17 = .ok (.aload_n 1, 1) := by decide +kernel
theorem dX7_memberValue_18 : decode cX7_memberValue 18 = .ok (.iload_n 2, 1) := by decide +kernel
theorem dX7_memberValue_19 : decode cX7_memberValue 19 = .ok (.iload_n 3, 1) := by decide +kernel
theorem dX7_memberValue_20 : decode cX7_memberValue 20 = .ok (.invokevirtual 265, 3) := by decide +kernel
theorem dX7_memberValue_23 : decode cX7_memberValue 23 = .ok (.ireturn, 1) := by decide +kernel
set_option maxRecDepth 20000 in
theorem ggX7_wholeValue_X6_wholeValue : GoodIn wsX7_wholeValue wsX6_wholeValue := goodIn_r _ [7, 8, 9, 10, 11, 12, 13, 6, 14, 15, 16, 17, 18, 19, 20, 21, 22, 23, 24, 25, 26, 27, 28, 29, 30, 31, 32, 33, 34, 35, 36, 37, 38, 39, 40, 41, 42, 43, 44, 45, 46, 47, 48, 49, 50, 51, 52, 53, 87, 88, 89, 90, 91, 92, 93, 94] (by decide +kernel) (by decide +kernel)
set_option maxRecDepth 20000 in
theorem gX7_wholeValue_X6_wholeValue : GoodIn wsX7_wholeValue (wsV RX7 266 RX6 yX6_wholeValue wsX6_wholeValue) := goodIn_app (goodIn_of _ (by decide +kernel)) ggX7_wholeValue_X6_wholeValue
set_option maxRecDepth 20000 in
theorem ggX7_wholeValue_X3_wholeValue : GoodIn wsX7_wholeValue wsX3_wholeValue := goodIn_r _ [58, 59, 60, 61, 62, 63, 64, 57, 65, 66, 67, 46, 47, 48, 68, 25, 26, 27, 28, 29, 69, 70, 71, 72, 73, 95, 96, 97, 98, 99, 100, 101, 102, 103, 104, 105, 106, 107, 94] (by decide +kernel) (by decide +kernel)
set_option maxRecDepth 20000 in
theorem gX7_wholeValue_X3_wholeValue : GoodIn wsX7_wholeValue (wsV RX7 268 RX3 yX3_wholeValue wsX3_wholeValue) := goodIn_app (goodIn_of _ (by decide +kernel)) ggX7_wholeValue_X3_wholeValue
theorem dX7_wholeValue_0 : decode cX7_wholeValue 0 = .ok (.iload_n 2, 1) := by decide +kernel
theorem dX7_wholeValue_1 : decode cX7_wholeValue 1 = .ok (.bipush 11, 2) := by decide +kernel
theorem dX7_wholeValue_3 : decode cX7_wholeValue 3 = .ok (.if_icmp .ne 11, 3) := by decide +kernel
theorem dX7_wholeValue_6 : decode cX7_wholeValue 6 = .ok (.aload_n 0, 1) := by decide +kernel
theorem dX7_wholeValue_7 : decode cX7_wholeValue 7 = .ok (.getfield 43, 3) := by decide +kernel
theorem dX7_wholeValue_10 : decode cX7_wholeValue 10 = .ok (.getfield 201, 3) := by decide +kernel
theorem dX7_wholeValue_13 : decode cX7_wholeValue 13 = .ok (.ireturn, 1) := by decide +kernel
theorem dX7_wholeValue_14 : decode cX7_wholeValue 14 = .ok (.iload_n 2, 1) := by decide +kernel
theorem dX7_wholeValue_15 : decode cX7_wholeValue 15 = .ok (.iconst 5, 1) := by decide +kernel
theorem dX7_wholeValue_16 : decode cX7_wholeValue 16 = .ok (.if_icmp .lt 9, 3) := by decide +kernel
theorem dX7_wholeValue_19 : decode cX7_wholeValue 19 = .ok (.iload_n 2, 1) := by decide +kernel
theorem dX7_wholeValue_20 : decode cX7_wholeValue 20 = .ok (.bipush 10, 2) := by decide +kernel
theorem dX7_wholeValue_22 : decode cX7_wholeValue 22 = .ok (.if_icmp .ne 14, 3) := by decide +kernel
theorem dX7_wholeValue_25 : decode cX7_wholeValue 25 = .ok (.aload_n 0, 1) := by decide +kernel
theorem dX7_wholeValue_26 : decode cX7_wholeValue 26 = .ok (.getfield 10, 3) := by decide +kernel
theorem dX7_wholeValue_29 : decode cX7_wholeValue 29 = .ok (.iload_n 2, 1) := by decide +kernel
theorem dX7_wholeValue_30 : decode cX7_wholeValue 30 = .ok (.invokevirtual 266, 3) := by decide +kernel
theorem dX7_wholeValue_33 : decode cX7_wholeValue 33 = .ok (.goto 8, 3) := by decide +kernel
theorem dX7_wholeValue_36 : decode cX7_wholeValue 36 = .ok (.aload_n 1, 1) := by decide +kernel
theorem dX7_wholeValue_37 : decode cX7_wholeValue 37 = .ok (.iload_n 2, 1) := by decide +kernel
theorem dX7_wholeValue_38 : decode cX7_wholeValue 38 = .ok (.invokevirtual 268, 3) := by decide +kernel
theorem dX7_wholeValue_41 : decode cX7_wholeValue 41 = .ok (.ireturn, 1) := by decide +kernel
set_option maxRecDepth 20000 in
theorem ggX7_perform_X6_faultOf : GoodIn wsX7_perform wsX6_faultOf := goodIn_r _ [8, 9, 10, 11, 12, 13, 14, 15, 16, 17, 18, 19, 20, 21, 22, 23, 7, 24, 25, 26, 27, 28, 29, 30, 31, 32, 33, 34, 35, 36, 37, 38, 39, 40, 41, 42, 43, 44, 45, 46, 47, 48, 49, 50, 51, 52, 53, 54, 55, 56, 57, 58, 59, 60, 61, 62, 63, 147, 148, 149, 150, 151, 152, 153, 154] (by decide +kernel) (by decide +kernel)
set_option maxRecDepth 20000 in
theorem gX7_perform_X6_faultOf : GoodIn wsX7_perform (wsV RX7 269 RX6 yX6_faultOf wsX6_faultOf) := goodIn_app (goodIn_of _ (by decide +kernel)) ggX7_perform_X6_faultOf
set_option maxRecDepth 20000 in
theorem ggX7_perform_X7_refuse : GoodIn wsX7_perform wsX7_refuse := goodIn_ca (goodIn_ca (goodIn_ca (goodIn_r _ [66, 67, 68, 69, 70, 71, 72] (by decide +kernel) (by decide +kernel)) (goodIn_sub (fun _ h => List.mem_cons_of_mem _ (List.mem_append_left _ (List.mem_append_left _ (List.mem_append_right _ h)))) (by decide +kernel))) (goodIn_sub (fun _ h => List.mem_cons_of_mem _ (List.mem_append_left _ (List.mem_append_right _ h))) (by decide +kernel))) (goodIn_sub (fun _ h => List.mem_cons_of_mem _ (List.mem_append_right _ h)) (by decide +kernel))
set_option maxRecDepth 20000 in
theorem gX7_perform_X7_refuse : GoodIn wsX7_perform (va_wsS RX7 79 yX7_refuse wsX7_refuse) := goodIn_app (goodIn_of _ (by decide +kernel)) ggX7_perform_X7_refuse
set_option maxRecDepth 20000 in
theorem ggX7_perform_X5_keep : GoodIn wsX7_perform wsX5_keep := goodIn_r _ [77, 78, 79, 80, 81, 82, 83, 84, 85, 86, 76, 87, 88, 89, 90, 91, 7, 92, 10, 93, 45, 94, 11, 95, 96, 97, 98, 99, 49, 100, 51, 101, 47, 48, 50, 155, 156, 157, 147, 148, 149, 150, 151, 152, 153, 154] (by decide +kernel) (by decide +kernel)
set_option maxRecDepth 20000 in
theorem gX7_perform_X5_keep : GoodIn wsX7_perform (wsV RX7 210 RX5 yX5_keep wsX5_keep) := goodIn_app (goodIn_of _ (by decide +kernel)) ggX7_perform_X5_keep
set_option maxRecDepth 20000 in
theorem ggX7_perform_X6_carryOut : GoodIn wsX7_perform wsX6_carryOut := goodIn_r _ [105, 9, 45, 12, 13, 14, 15, 16, 17, 18, 106, 107, 108, 7, 109, 93, 10, 110, 111, 112, 49, 113, 51, 114, 115, 116, 117, 46, 47, 48, 50, 118, 119, 120, 121, 94, 52, 53, 54, 55, 41, 42, 43, 44, 29, 30, 31, 32, 122, 123, 124, 125, 126, 20, 127, 128, 129, 130, 131, 132, 133, 134, 135, 95, 11, 96, 136, 137, 138, 139, 147, 148, 149, 150, 151, 152, 153, 154] (by decide +kernel) (by decide +kernel)
set_option maxRecDepth 20000 in
theorem gX7_perform_X6_carryOut : GoodIn wsX7_perform (wsV RX7 272 RX6 yX6_carryOut wsX6_carryOut) := goodIn_app (goodIn_of _ (by decide +kernel)) ggX7_perform_X6_carryOut
theorem dX7_perform_0 : decode cX7_perform 0 = .ok (.aload_n 0, 1) := by decide +kernel
theorem dX7_perform_1 : decode cX7_perform 1 = .ok (.getfield 10, 3) := by decide +kernel
theorem dX7_perform_4 : decode cX7_perform 4 = .ok (.aload_n 1, 1) := by decide +kernel
theorem dX7_perform_5 : decode cX7_perform 5 = .ok (.iload_n 2, 1) := by decide +kernel
theorem dX7_perform_6 : decode cX7_perform 6 = .ok (.iload_n 3, 1) := by decide +kernel
theorem dX7_perform_7 : decode cX7_perform 7 = .ok (.invokevirtual 269, 3) := by decide +kernel
theorem dX7_perform_10 : decode cX7_perform 10 = .ok (.invokestatic 79, 3) := by decide +kernel
theorem dX7_perform_13 : decode cX7_perform 13 = .ok (.aload_n 0, 1) := by decide +kernel
theorem dX7_perform_14 : decode cX7_perform 14 = .ok (.getfield 36, 3) := by decide +kernel
theorem dX7_perform_17 : decode cX7_perform 17 = .ok (.aload_n 0, 1) := by decide +kernel
theorem dX7_perform_18 : decode cX7_perform 18 = .ok (.getfield 10, 3) := by decide +kernel
theorem dX7_perform_21 : decode cX7_perform 21 = .ok (.invokevirtual 210, 3) := by decide +kernel
theorem dX7_perform_24 : decode cX7_perform 24 = .ok (.aload_n 0, 1) := by decide +kernel
theorem dX7_perform_25 : decode cX7_perform 25 = .ok (.iconst 1, 1) := by decide +kernel
theorem dX7_perform_26 : decode cX7_perform 26 = .ok (.putfield 23, 3) := by decide +kernel
theorem dX7_perform_29 : decode cX7_perform 29 = .ok (.aload_n 0, 1) := by decide +kernel
theorem dX7_perform_30 : decode cX7_perform 30 = .ok (.getfield 10, 3) := by decide +kernel
theorem dX7_perform_33 : decode cX7_perform 33 = .ok (.aload_n 1, 1) := by decide +kernel
theorem dX7_perform_34 : decode cX7_perform 34 = .ok (.iload_n 2, 1) := by decide +kernel
theorem dX7_perform_35 : decode cX7_perform 35 = .ok (.iload_n 3, 1) := by decide +kernel
theorem dX7_perform_36 : decode cX7_perform 36 = .ok (.invokevirtual 272, 3) := by decide +kernel
theorem dX7_perform_39 : decode cX7_perform 39 = .ok (.ireturn, 1) := by decide +kernel
set_option maxRecDepth 20000 in
theorem ggX7_carryOutText_X2_hasCommand : GoodIn wsX7_carryOutText wsX2_hasCommand := goodIn_r _ [7, 8, 9, 10, 11, 12, 6, 13, 14, 15, 16, 17, 18, 19, 20, 21, 22, 23, 24, 203, 204, 205, 206, 207, 208, 209] (by decide +kernel) (by decide +kernel)
set_option maxRecDepth 20000 in
theorem gX7_carryOutText_X2_hasCommand : GoodIn wsX7_carryOutText (wsV RX7 278 RX2 yX2_hasCommand wsX2_hasCommand) := goodIn_app (goodIn_of _ (by decide +kernel)) ggX7_carryOutText_X2_hasCommand
set_option maxRecDepth 20000 in
theorem ggX7_carryOutText_X2_readCommand : GoodIn wsX7_carryOutText wsX2_readCommand := goodIn_r _ [28, 8, 9, 29, 30, 31, 14, 15, 16, 6, 17, 18, 19, 20, 21, 22, 23, 24, 32, 33, 34, 35, 36, 37, 38, 39, 40, 41, 42, 43, 44, 45, 46, 47, 48, 49, 50, 51, 52, 53, 54, 55, 56, 57, 58, 59, 60, 61, 62, 63, 64, 65, 66, 67, 68, 69, 70, 71, 72, 73, 74, 75, 76, 77, 78, 79, 80, 81, 82, 83, 84, 85, 86, 87, 88, 89, 90, 91, 92, 93, 94, 95, 10, 11, 12, 13, 96, 97, 98, 203, 204, 205, 206, 207, 208, 209] (by decide +kernel) (by decide +kernel)
set_option maxRecDepth 20000 in
theorem gX7_carryOutText_X2_readCommand : GoodIn wsX7_carryOutText (wsV RX7 282 RX2 yX2_readCommand wsX2_readCommand) := goodIn_app (goodIn_of _ (by decide +kernel)) ggX7_carryOutText_X2_readCommand
set_option maxRecDepth 20000 in
theorem ggX7_carryOutText_X6_faultOf : GoodIn wsX7_carryOutText wsX6_faultOf := goodIn_r _ [103, 104, 105, 106, 107, 108, 109, 110, 111, 112, 113, 114, 115, 116, 117, 118, 102, 119, 120, 121, 122, 123, 124, 125, 126, 127, 128, 129, 130, 131, 132, 133, 134, 135, 136, 137, 138, 139, 140, 141, 20, 21, 22, 23, 24, 142, 143, 144, 145, 146, 147, 148, 149, 150, 151, 152, 153, 210, 211, 212, 213, 214, 215, 216, 209] (by decide +kernel) (by decide +kernel)
set_option maxRecDepth 20000 in
theorem gX7_carryOutText_X6_faultOf : GoodIn wsX7_carryOutText (wsV RX7 269 RX6 yX6_faultOf wsX6_faultOf) := goodIn_app (goodIn_of _ (by decide +kernel)) ggX7_carryOutText_X6_faultOf
set_option maxRecDepth 20000 in
theorem ggX7_carryOutText_X6_carryOut : GoodIn wsX7_carryOutText wsX6_carryOut := goodIn_r _ [157, 104, 140, 107, 108, 109, 110, 111, 112, 113, 158, 159, 160, 102, 161, 162, 105, 163, 164, 165, 22, 166, 24, 167, 168, 169, 170, 141, 20, 21, 23, 171, 172, 173, 174, 175, 142, 143, 144, 145, 136, 137, 138, 139, 124, 125, 126, 127, 176, 177, 178, 179, 180, 115, 181, 182, 183, 184, 185, 186, 187, 188, 189, 190, 106, 191, 192, 193, 194, 195, 210, 211, 212, 213, 214, 215, 216, 209] (by decide +kernel) (by decide +kernel)
set_option maxRecDepth 20000 in
theorem gX7_carryOutText_X6_carryOut : GoodIn wsX7_carryOutText (wsV RX7 272 RX6 yX6_carryOut wsX6_carryOut) := goodIn_app (goodIn_of _ (by decide +kernel)) ggX7_carryOutText_X6_carryOut
theorem dX7_carryOutText_0 : decode cX7_carryOutText 0 = .ok (.aload_n 0, 1) := by decide +kernel
theorem dX7_carryOutText_1 : decode cX7_carryOutText 1 = .ok (.getfield 43, 3) := by decide +kernel
theorem dX7_carryOutText_4 : decode cX7_carryOutText 4 = .ok (.iconst 0, 1) := by decide +kernel
theorem dX7_carryOutText_5 : decode cX7_carryOutText 5 = .ok (.putfield 275, 3) := by decide +kernel
theorem dX7_carryOutText_8 : decode cX7_carryOutText 8 = .ok (.iconst 0, 1) := by decide +kernel
theorem dX7_carryOutText_9 : decode cX7_carryOutText 9 = .ok (.istore_n 1, 1) := by decide +kernel
theorem dX7_carryOutText_10 : decode cX7_carryOutText 10 = .ok (.iload_n 1, 1) := by decide +kernel
theorem dX7_carryOutText_11 : decode cX7_carryOutText 11 = .ok (.sipush 150, 3) := by decide +kernel
theorem dX7_carryOutText_14 : decode cX7_carryOutText 14 = .ok (.if_icmp .ge 89, 3) := by decide +kernel
theorem dX7_carryOutText_17 : decode cX7_carryOutText 17 = .ok (.aload_n 0, 1) := by decide +kernel
theorem dX7_carryOutText_18 : decode cX7_carryOutText 18 = .ok (.getfield 43, 3) := by decide +kernel
theorem dX7_carryOutText_21 : decode cX7_carryOutText 21 = .ok (.invokevirtual 278, 3) := by decide +kernel
theorem dX7_carryOutText_24 : decode cX7_carryOutText 24 = .ok (.ifCond .eq 79, 3) := by decide +kernel
theorem dX7_carryOutText_27 : decode cX7_carryOutText 27 = .ok (.aload_n 0, 1) := by decide +kernel
theorem dX7_carryOutText_28 : decode cX7_carryOutText 28 = .ok (.getfield 43, 3) := by decide +kernel
theorem dX7_carryOutText_31 : decode cX7_carryOutText 31 = .ok (.invokevirtual 282, 3) := by decide +kernel
theorem dX7_carryOutText_34 : decode cX7_carryOutText 34 = .ok (.pop, 1) := by decide +kernel
theorem dX7_carryOutText_35 : decode cX7_carryOutText 35 = .ok (.aload_n 0, 1) := by decide +kernel
theorem dX7_carryOutText_36 : decode cX7_carryOutText 36 = .ok (.getfield 10, 3) := by decide +kernel
theorem dX7_carryOutText_39 : decode cX7_carryOutText 39 = .ok (.aload_n 0, 1) := by decide +kernel
theorem dX7_carryOutText_40 : decode cX7_carryOutText 40 = .ok (.getfield 43, 3) := by decide +kernel
theorem dX7_carryOutText_43 : decode cX7_carryOutText 43 = .ok (.getfield 285, 3) := by decide +kernel
theorem dX7_carryOutText_46 : decode cX7_carryOutText 46 = .ok (.aload_n 0, 1) := by decide +kernel
theorem dX7_carryOutText_47 : decode cX7_carryOutText 47 = .ok (.getfield 43, 3) := by decide +kernel
theorem dX7_carryOutText_50 : decode cX7_carryOutText 50 = .ok (.getfield 288, 3) := by decide +kernel
theorem dX7_carryOutText_53 : decode cX7_carryOutText 53 = .ok (.aload_n 0, 1) := by decide +kernel
theorem dX7_carryOutText_54 : decode cX7_carryOutText 54 = .ok (.getfield 43, 3) := by decide +kernel
theorem dX7_carryOutText_57 : decode cX7_carryOutText 57 = .ok (.getfield 291, 3) := by decide +kernel
theorem dX7_carryOutText_60 : decode cX7_carryOutText 60 = .ok (.invokevirtual 269, 3) := by decide +kernel
theorem dX7_carryOutText_63 : decode cX7_carryOutText 63 = .ok (.ifCond .eq 5, 3) := by decide +kernel
theorem dX7_carryOutText_66 : decode cX7_carryOutText 66 = .ok (.iload_n 1, 1) := by decide +kernel
theorem dX7_carryOutText_67 : decode cX7_carryOutText 67 = .ok (.ireturn, 1) := by decide +kernel
theorem dX7_carryOutText_68 : decode cX7_carryOutText 68 = .ok (.aload_n 0, 1) := by decide +kernel
theorem dX7_carryOutText_69 : decode cX7_carryOutText 69 = .ok (.getfield 10, 3) := by decide +kernel
theorem dX7_carryOutText_72 : decode cX7_carryOutText 72 = .ok (.aload_n 0, 1) := by decide +kernel
theorem dX7_carryOutText_73 : decode cX7_carryOutText 73 = .ok (.getfield 43, 3) := by decide +kernel
theorem dX7_carryOutText_76 : decode cX7_carryOutText 76 = .ok (.getfield 285, 3) := by decide +kernel
theorem dX7_carryOutText_79 : decode cX7_carryOutText 79 = .ok (.aload_n 0, 1) := by decide +kernel
theorem dX7_carryOutText_80 : decode cX7_carryOutText 80 = .ok (.getfield 43, 3) := by decide +kernel
theorem dX7_carryOutText_83 : decode cX7_carryOutText 83 = .ok (.getfield 288, 3) := by decide +kernel
theorem dX7_carryOutText_86 : decode cX7_carryOutText 86 = .ok (.aload_n 0, 1) := by decide +kernel
theorem dX7_carryOutText_87 : decode cX7_carryOutText 87 = .ok (.getfield 43, 3) := by decide +kernel
theorem dX7_carryOutText_90 : decode cX7_carryOutText 90 = .ok (.getfield 291, 3) := by decide +kernel
theorem dX7_carryOutText_93 : decode cX7_carryOutText 93 = .ok (.invokevirtual 272, 3) := by decide +kernel
theorem dX7_carryOutText_96 : decode cX7_carryOutText 96 = .ok (.pop, 1) := by decide +kernel
theorem dX7_carryOutText_97 : decode cX7_carryOutText 97 = .ok (.iinc 1 1, 3) := by decide +kernel
theorem dX7_carryOutText_100 : decode cX7_carryOutText 100 = .ok (.goto (-90), 3) := by decide +kernel
theorem dX7_carryOutText_103 : decode cX7_carryOutText 103 = .ok (.iload_n 1, 1) := by decide +kernel
theorem dX7_carryOutText_104 : decode cX7_carryOutText 104 = .ok (.ireturn, 1) := by decide +kernel
set_option maxRecDepth 20000 in
theorem ggX7_measured_X3_measure : GoodIn wsX7_measured wsX3_measure := goodIn_r _ [8, 9, 10, 11, 12, 13, 14, 15, 16, 17, 18, 19, 20, 21, 22, 23, 24, 25, 26, 27, 28, 29, 30, 31, 32, 33, 34, 35, 36, 37, 38, 39, 40, 7, 41, 42, 43, 44, 45, 46, 47, 48, 49, 50, 51, 52, 53, 54, 55, 56, 57, 58, 59, 60, 61, 62, 63, 64, 65, 66, 67, 68, 69, 70, 71, 72, 73, 74, 75, 76, 77, 78, 79, 80, 81, 82, 83, 84, 85, 86, 87, 88, 89, 90, 91, 92, 93, 94, 95, 96, 97, 98, 99, 100, 101, 102, 103, 104, 105, 106, 107, 108, 109, 110, 111, 112, 113, 114, 115, 123, 124, 125, 126, 127, 128, 129, 130, 131, 132, 133, 134, 135, 136, 137, 138, 139, 140, 141, 142, 143] (by decide +kernel) (by decide +kernel)
set_option maxRecDepth 20000 in
theorem gX7_measured_X3_measure : GoodIn wsX7_measured (wsV RX7 195 RX3 yX3_measure wsX3_measure) := goodIn_app (goodIn_of _ (by decide +kernel)) ggX7_measured_X3_measure
theorem dX7_measured_0 : decode cX7_measured 0 = .ok (.aload_n 0, 1) := by decide +kernel
theorem dX7_measured_1 : decode cX7_measured 1 = .ok (.getfield 23, 3) := by decide +kernel
theorem dX7_measured_4 : decode cX7_measured 4 = .ok (.ifCond .eq 19, 3) := by decide +kernel
theorem dX7_measured_7 : decode cX7_measured 7 = .ok (.aload_n 0, 1) := by decide +kernel
theorem dX7_measured_8 : decode cX7_measured 8 = .ok (.getfield 19, 3) := by decide +kernel
theorem dX7_measured_11 : decode cX7_measured 11 = .ok (.aload_n 0, 1) := by decide +kernel
theorem dX7_measured_12 : decode cX7_measured 12 = .ok (.getfield 10, 3) := by decide +kernel
theorem dX7_measured_15 : decode cX7_measured 15 = .ok (.invokevirtual 195, 3) := by decide +kernel
theorem dX7_measured_18 : decode cX7_measured 18 = .ok (.aload_n 0, 1) := by decide +kernel
theorem dX7_measured_19 : decode cX7_measured 19 = .ok (.iconst 0, 1) := by decide +kernel
theorem dX7_measured_20 : decode cX7_measured 20 = .ok (.putfield 23, 3) := by decide +kernel
theorem dX7_measured_23 : decode cX7_measured 23 = .ok (.aload_n 0, 1) := by decide +kernel
theorem dX7_measured_24 : decode cX7_measured 24 = .ok (.getfield 19, 3) := by decide +kernel
theorem dX7_measured_27 : decode cX7_measured 27 = .ok (.areturn, 1) := by decide +kernel
set_option maxRecDepth 20000 in
theorem ggX7_measuredWith_X6_copyFrom : GoodIn wsX7_measuredWith wsX6_copyFrom := goodIn_r _ [8, 9, 10, 11, 12, 13, 14, 15, 16, 17, 18, 19, 20, 21, 22, 23, 24, 25, 133, 134, 135, 136, 137, 138, 139, 140] (by decide +kernel) (by decide +kernel)
set_option maxRecDepth 20000 in
theorem gX7_measuredWith_X6_copyFrom : GoodIn wsX7_measuredWith (wsV RX7 187 RX6 yX6_copyFrom wsX6_copyFrom) := goodIn_app (goodIn_of _ (by decide +kernel)) ggX7_measuredWith_X6_copyFrom
set_option maxRecDepth 20000 in
theorem ggX7_measuredWith_X3_measure : GoodIn wsX7_measuredWith wsX3_measure := goodIn_r _ [30, 31, 32, 33, 34, 35, 36, 37, 38, 39, 40, 41, 7, 42, 9, 43, 44, 45, 46, 11, 47, 48, 49, 50, 51, 23, 24, 19, 25, 21, 52, 53, 54, 29, 55, 56, 57, 58, 59, 60, 61, 62, 63, 64, 65, 66, 67, 68, 69, 70, 71, 72, 73, 74, 75, 76, 77, 78, 79, 80, 81, 82, 13, 83, 84, 85, 86, 15, 14, 87, 88, 89, 90, 91, 92, 93, 94, 95, 96, 97, 98, 99, 100, 10, 101, 102, 103, 104, 105, 106, 107, 108, 109, 110, 111, 112, 113, 114, 115, 116, 117, 118, 119, 120, 121, 122, 123, 124, 125, 141, 142, 143, 144, 145, 146, 147, 148, 149, 150, 151, 152, 153, 133, 134, 135, 136, 137, 138, 139, 140] (by decide +kernel) (by decide +kernel)
set_option maxRecDepth 20000 in
theorem gX7_measuredWith_X3_measure : GoodIn wsX7_measuredWith (wsV RX7 195 RX3 yX3_measure wsX3_measure) := goodIn_app (goodIn_of _ (by decide +kernel)) ggX7_measuredWith_X3_measure
theorem dX7_measuredWith_0 : decode cX7_measuredWith 0 = .ok (.aload_n 0, 1) := by decide +kernel
theorem dX7_measuredWith_1 : decode cX7_measuredWith 1 = .ok (.getfield 27, 3) := by decide +kernel
theorem dX7_measuredWith_4 : decode cX7_measuredWith 4 = .ok (.aload_n 0, 1) := by decide +kernel
theorem dX7_measuredWith_5 : decode cX7_measuredWith 5 = .ok (.getfield 10, 3) := by decide +kernel
theorem dX7_measuredWith_8 : decode cX7_measuredWith 8 = .ok (.invokevirtual 187, 3) := by decide +kernel
theorem dX7_measuredWith_11 : decode cX7_measuredWith 11 = .ok (.aload_n 0, 1) := by decide +kernel
theorem dX7_measuredWith_12 : decode cX7_measuredWith 12 = .ok (.getfield 27, 3) := by decide +kernel
theorem dX7_measuredWith_15 : decode cX7_measuredWith 15 = .ok (.iload_n 1, 1) := by decide +kernel
theorem dX7_measuredWith_16 : decode cX7_measuredWith 16 = .ok (.putfield 140, 3) := by decide +kernel
theorem dX7_measuredWith_19 : decode cX7_measuredWith 19 = .ok (.aload_n 0, 1) := by decide +kernel
theorem dX7_measuredWith_20 : decode cX7_measuredWith 20 = .ok (.getfield 30, 3) := by decide +kernel
theorem dX7_measuredWith_23 : decode cX7_measuredWith 23 = .ok (.aload_n 0, 1) := by decide +kernel
theorem dX7_measuredWith_24 : decode cX7_measuredWith 24 = .ok (.getfield 27, 3) := by decide +kernel
theorem dX7_measuredWith_27 : decode cX7_measuredWith 27 = .ok (.invokevirtual 195, 3) := by decide +kernel
theorem dX7_measuredWith_30 : decode cX7_measuredWith 30 = .ok (.aload_n 0, 1) := by decide +kernel
theorem dX7_measuredWith_31 : decode cX7_measuredWith 31 = .ok (.getfield 30, 3) := by decide +kernel
theorem dX7_measuredWith_34 : decode cX7_measuredWith 34 = .ok (.areturn, 1) := by decide +kernel
set_option maxRecDepth 20000 in
theorem ggX7_weightToSwing_X4_at : GoodIn wsX7_weightToSwing wsX4_at := goodIn_r _ [10, 11, 76] (by decide +kernel) (by decide +kernel)
set_option maxRecDepth 20000 in
theorem gX7_weightToSwing_X4_at : GoodIn wsX7_weightToSwing (wsV RX7 121 RX4 yX4_at wsX4_at) := goodIn_app (goodIn_of _ (by decide +kernel)) ggX7_weightToSwing_X4_at
set_option maxRecDepth 20000 in
theorem ggX7_weightToSwing_X6_firstBrokenRule : GoodIn wsX7_weightToSwing wsX6_firstBrokenRule := goodIn_r _ [16, 17, 18, 19, 20, 15, 21, 22, 23, 24, 7, 8, 9, 10, 11, 25, 26, 27, 28, 29, 30, 31, 32, 33, 34, 69, 70, 71, 72, 73, 74, 75, 76] (by decide +kernel) (by decide +kernel)
set_option maxRecDepth 20000 in
theorem gX7_weightToSwing_X6_firstBrokenRule : GoodIn wsX7_weightToSwing (wsV RX7 143 RX6 yX6_firstBrokenRule wsX6_firstBrokenRule) := goodIn_app (goodIn_of _ (by decide +kernel)) ggX7_weightToSwing_X6_firstBrokenRule
set_option maxRecDepth 20000 in
theorem ggX7_weightToSwing_X3_isWinning : GoodIn wsX7_weightToSwing wsX3_isWinning := goodIn_r _ [39, 40, 41, 42, 7, 8, 9, 10, 11, 49, 50, 51, 52, 53, 54, 55, 56, 57, 58, 59, 60, 61, 76] (by decide +kernel) (by decide +kernel)
set_option maxRecDepth 20000 in
theorem gX7_weightToSwing_X3_isWinning : GoodIn wsX7_weightToSwing (wsV RX7 109 RX3 yX3_isWinning wsX3_isWinning) := goodIn_app (goodIn_of _ (by decide +kernel)) ggX7_weightToSwing_X3_isWinning
set_option maxRecDepth 20000 in
theorem ggX7_weightToSwing_X6_weightOf : GoodIn wsX7_weightToSwing wsX6_weightOf := goodIn_r _ [46, 47, 48, 32, 33, 34, 24, 7, 8, 9, 10, 11, 69, 70, 71, 72, 73, 74, 75, 76] (by decide +kernel) (by decide +kernel)
set_option maxRecDepth 20000 in
theorem gX7_weightToSwing_X6_weightOf : GoodIn wsX7_weightToSwing (wsV RX7 137 RX6 yX6_weightOf wsX6_weightOf) := goodIn_app (goodIn_of _ (by decide +kernel)) ggX7_weightToSwing_X6_weightOf
theorem dX7_weightToSwing_0 : decode cX7_weightToSwing 0 = .ok (.aload_n 1, 1) := by decide +kernel
theorem dX7_weightToSwing_1 : decode cX7_weightToSwing 1 = .ok (.getfield 134, 3) := by decide +kernel
theorem dX7_weightToSwing_4 : decode cX7_weightToSwing 4 = .ok (.iload_n 3, 1) := by decide +kernel
theorem dX7_weightToSwing_5 : decode cX7_weightToSwing 5 = .ok (.invokevirtual 121, 3) := by decide +kernel
theorem dX7_weightToSwing_8 : decode cX7_weightToSwing 8 = .ok (.istore 4, 2) := by decide +kernel
theorem dX7_weightToSwing_10 : decode cX7_weightToSwing 10 = .ok (.aload_n 0, 1) := by decide +kernel
theorem dX7_weightToSwing_11 : decode cX7_weightToSwing 11 = .ok (.getfield 10, 3) := by decide +kernel
theorem dX7_weightToSwing_14 : decode cX7_weightToSwing 14 = .ok (.iload 4, 2) := by decide +kernel
theorem dX7_weightToSwing_16 : decode cX7_weightToSwing 16 = .ok (.invokevirtual 143, 3) := by decide +kernel
theorem dX7_weightToSwing_19 : decode cX7_weightToSwing 19 = .ok (.iconst (-1), 1) := by decide +kernel
theorem dX7_weightToSwing_20 : decode cX7_weightToSwing 20 = .ok (.if_icmp .ne 17, 3) := by decide +kernel
theorem dX7_weightToSwing_23 : decode cX7_weightToSwing 23 = .ok (.aload_n 1, 1) := by decide +kernel
theorem dX7_weightToSwing_24 : decode cX7_weightToSwing 24 = .ok (.iload_n 3, 1) := by decide +kernel
theorem dX7_weightToSwing_25 : decode cX7_weightToSwing 25 = .ok (.iconst 1, 1) := by decide +kernel
theorem dX7_weightToSwing_26 : decode cX7_weightToSwing 26 = .ok (.iload_n 2, 1) := by decide +kernel
theorem dX7_weightToSwing_27 : decode cX7_weightToSwing 27 = .ok (.ishl, 1) := by decide +kernel
theorem dX7_weightToSwing_28 : decode cX7_weightToSwing 28 = .ok (.iconst (-1), 1) := by decide +kernel
theorem dX7_weightToSwing_29 : decode cX7_weightToSwing 29 = .ok (.ixor, 1) := by decide +kernel
theorem dX7_weightToSwing_30 : decode cX7_weightToSwing 30 = .ok (.iand, 1) := by decide +kernel
theorem dX7_weightToSwing_31 : decode cX7_weightToSwing 31 = .ok (.invokevirtual 109, 3) := by decide +kernel
theorem dX7_weightToSwing_34 : decode cX7_weightToSwing 34 = .ok (.ifCond .eq 6, 3) := by decide +kernel
theorem dX7_weightToSwing_37 : decode cX7_weightToSwing 37 = .ok (.bipush 51, 2) := by decide +kernel
theorem dX7_weightToSwing_39 : decode cX7_weightToSwing 39 = .ok (.ireturn, 1) := by decide +kernel
theorem dX7_weightToSwing_40 : decode cX7_weightToSwing 40 = .ok (.iconst 0, 1) := by decide +kernel
theorem dX7_weightToSwing_41 : decode cX7_weightToSwing 41 = .ok (.aload_n 0, 1) := by decide +kernel
theorem dX7_weightToSwing_42 : decode cX7_weightToSwing 42 = .ok (.getfield 10, 3) := by decide +kernel
theorem dX7_weightToSwing_45 : decode cX7_weightToSwing 45 = .ok (.getfield 140, 3) := by decide +kernel
theorem dX7_weightToSwing_48 : decode cX7_weightToSwing 48 = .ok (.aload_n 0, 1) := by decide +kernel
theorem dX7_weightToSwing_49 : decode cX7_weightToSwing 49 = .ok (.getfield 10, 3) := by decide +kernel
theorem dX7_weightToSwing_52 : decode cX7_weightToSwing 52 = .ok (.iload 4, 2) := by decide +kernel
theorem dX7_weightToSwing_54 : decode cX7_weightToSwing 54 = .ok (.invokevirtual 137, 3) := by decide +kernel
theorem dX7_weightToSwing_57 : decode cX7_weightToSwing 57 = .ok (.aload_n 0, 1) := by decide +kernel
theorem dX7_weightToSwing_58 : decode cX7_weightToSwing 58 = .ok (.getfield 10, 3) := by decide +kernel
theorem dX7_weightToSwing_61 : decode cX7_weightToSwing 61 = .ok (.getfield 294, 3) := by decide +kernel
theorem dX7_weightToSwing_64 : decode cX7_weightToSwing 64 = .ok (.iload_n 2, 1) := by decide +kernel
theorem dX7_weightToSwing_65 : decode cX7_weightToSwing 65 = .ok (.invokevirtual 121, 3) := by decide +kernel
theorem dX7_weightToSwing_68 : decode cX7_weightToSwing 68 = .ok (.isub, 1) := by decide +kernel
theorem dX7_weightToSwing_69 : decode cX7_weightToSwing 69 = .ok (.isub, 1) := by decide +kernel
theorem dX7_weightToSwing_70 : decode cX7_weightToSwing 70 = .ok (.invokestatic 297, 3) := by decide +kernel
theorem dX7_weightToSwing_73 : decode cX7_weightToSwing 73 = .ok (.ireturn, 1) := by decide +kernel
theorem dJx29ce0_ordinal_8abf5_0 : decode cJx29ce0_ordinal_8abf5 0 = .ok (.aload_n 0, 1) := by decide +kernel
theorem dJx29ce0_ordinal_8abf5_1 : decode cJx29ce0_ordinal_8abf5 1 = .ok (.getfield 7, 3) := by decide +kernel
theorem dJx29ce0_ordinal_8abf5_4 : decode cJx29ce0_ordinal_8abf5 4 = .ok (.ireturn, 1) := by decide +kernel
theorem dJ6_bitCount_0f7a4_0 : decode cJ6_bitCount_0f7a4 0 = .ok (.iload_n 0, 1) := by decide +kernel
theorem dJ6_bitCount_0f7a4_1 : decode cJ6_bitCount_0f7a4 1 = .ok (.iload_n 0, 1) := by decide +kernel
theorem dJ6_bitCount_0f7a4_2 : decode cJ6_bitCount_0f7a4 2 = .ok (.iconst 1, 1) := by decide +kernel
theorem dJ6_bitCount_0f7a4_3 : decode cJ6_bitCount_0f7a4 3 = .ok (.iushr, 1) := by decide +kernel
theorem dJ6_bitCount_0f7a4_4 : decode cJ6_bitCount_0f7a4 4 = .ok (.ldc_w 265, 3) := by decide +kernel
theorem dJ6_bitCount_0f7a4_7 : decode cJ6_bitCount_0f7a4 7 = .ok (.iand, 1) := by decide +kernel
theorem dJ6_bitCount_0f7a4_8 : decode cJ6_bitCount_0f7a4 8 = .ok (.isub, 1) := by decide +kernel
theorem dJ6_bitCount_0f7a4_9 : decode cJ6_bitCount_0f7a4 9 = .ok (.istore_n 0, 1) := by decide +kernel
theorem dJ6_bitCount_0f7a4_10 : decode cJ6_bitCount_0f7a4 10 = .ok (.iload_n 0, 1) := by decide +kernel
theorem dJ6_bitCount_0f7a4_11 : decode cJ6_bitCount_0f7a4 11 = .ok (.ldc_w 266, 3) := by decide +kernel
theorem dJ6_bitCount_0f7a4_14 : decode cJ6_bitCount_0f7a4 14 = .ok (.iand, 1) := by decide +kernel
theorem dJ6_bitCount_0f7a4_15 : decode cJ6_bitCount_0f7a4 15 = .ok (.iload_n 0, 1) := by decide +kernel
theorem dJ6_bitCount_0f7a4_16 : decode cJ6_bitCount_0f7a4 16 = .ok (.iconst 2, 1) := by decide +kernel
theorem dJ6_bitCount_0f7a4_17 : decode cJ6_bitCount_0f7a4 17 = .ok (.iushr, 1) := by decide +kernel
theorem dJ6_bitCount_0f7a4_18 : decode cJ6_bitCount_0f7a4 18 = .ok (.ldc_w 266, 3) := by decide +kernel
theorem dJ6_bitCount_0f7a4_21 : decode cJ6_bitCount_0f7a4 21 = .ok (.iand, 1) := by decide +kernel
theorem dJ6_bitCount_0f7a4_22 : decode cJ6_bitCount_0f7a4 22 = .ok (.iadd, 1) := by decide +kernel
theorem dJ6_bitCount_0f7a4_23 : decode cJ6_bitCount_0f7a4 23 = .ok (.istore_n 0, 1) := by decide +kernel
theorem dJ6_bitCount_0f7a4_24 : decode cJ6_bitCount_0f7a4 24 = .ok (.iload_n 0, 1) := by decide +kernel
theorem dJ6_bitCount_0f7a4_25 : decode cJ6_bitCount_0f7a4 25 = .ok (.iload_n 0, 1) := by decide +kernel
theorem dJ6_bitCount_0f7a4_26 : decode cJ6_bitCount_0f7a4 26 = .ok (.iconst 4, 1) := by decide +kernel
theorem dJ6_bitCount_0f7a4_27 : decode cJ6_bitCount_0f7a4 27 = .ok (.iushr, 1) := by decide +kernel
theorem dJ6_bitCount_0f7a4_28 : decode cJ6_bitCount_0f7a4 28 = .ok (.iadd, 1) := by decide +kernel
theorem dJ6_bitCount_0f7a4_29 : decode cJ6_bitCount_0f7a4 29 = .ok (.ldc_w 267, 3) := by decide +kernel
theorem dJ6_bitCount_0f7a4_32 : decode cJ6_bitCount_0f7a4 32 = .ok (.iand, 1) := by decide +kernel
theorem dJ6_bitCount_0f7a4_33 : decode cJ6_bitCount_0f7a4 33 = .ok (.istore_n 0, 1) := by decide +kernel
theorem dJ6_bitCount_0f7a4_34 : decode cJ6_bitCount_0f7a4 34 = .ok (.iload_n 0, 1) := by decide +kernel
theorem dJ6_bitCount_0f7a4_35 : decode cJ6_bitCount_0f7a4 35 = .ok (.iload_n 0, 1) := by decide +kernel
theorem dJ6_bitCount_0f7a4_36 : decode cJ6_bitCount_0f7a4 36 = .ok (.bipush 8, 2) := by decide +kernel
theorem dJ6_bitCount_0f7a4_38 : decode cJ6_bitCount_0f7a4 38 = .ok (.iushr, 1) := by decide +kernel
theorem dJ6_bitCount_0f7a4_39 : decode cJ6_bitCount_0f7a4 39 = .ok (.iadd, 1) := by decide +kernel
theorem dJ6_bitCount_0f7a4_40 : decode cJ6_bitCount_0f7a4 40 = .ok (.istore_n 0, 1) := by decide +kernel
theorem dJ6_bitCount_0f7a4_41 : decode cJ6_bitCount_0f7a4 41 = .ok (.iload_n 0, 1) := by decide +kernel
theorem dJ6_bitCount_0f7a4_42 : decode cJ6_bitCount_0f7a4 42 = .ok (.iload_n 0, 1) := by decide +kernel
theorem dJ6_bitCount_0f7a4_43 : decode cJ6_bitCount_0f7a4 43 = .ok (.bipush 16, 2) := by decide +kernel
theorem dJ6_bitCount_0f7a4_45 : decode cJ6_bitCount_0f7a4 45 = .ok (.iushr, 1) := by decide +kernel
theorem dJ6_bitCount_0f7a4_46 : decode cJ6_bitCount_0f7a4 46 = .ok (.iadd, 1) := by decide +kernel
theorem dJ6_bitCount_0f7a4_47 : decode cJ6_bitCount_0f7a4 47 = .ok (.istore_n 0, 1) := by decide +kernel
theorem dJ6_bitCount_0f7a4_48 : decode cJ6_bitCount_0f7a4 48 = .ok (.iload_n 0, 1) := by decide +kernel
theorem dJ6_bitCount_0f7a4_49 : decode cJ6_bitCount_0f7a4 49 = .ok (.bipush 63, 2) := by decide +kernel
theorem dJ6_bitCount_0f7a4_51 : decode cJ6_bitCount_0f7a4 51 = .ok (.iand, 1) := by decide +kernel
theorem dJ6_bitCount_0f7a4_52 : decode cJ6_bitCount_0f7a4 52 = .ok (.ireturn, 1) := by decide +kernel
theorem dJ9_max_7cf53_0 : decode cJ9_max_7cf53 0 = .ok (.iload_n 0, 1) := by decide +kernel
theorem dJ9_max_7cf53_1 : decode cJ9_max_7cf53 1 = .ok (.iload_n 1, 1) := by decide +kernel
theorem dJ9_max_7cf53_2 : decode cJ9_max_7cf53 2 = .ok (.if_icmp .lt 7, 3) := by decide +kernel
theorem dJ9_max_7cf53_5 : decode cJ9_max_7cf53 5 = .ok (.iload_n 0, 1) := by decide +kernel
theorem dJ9_max_7cf53_6 : decode cJ9_max_7cf53 6 = .ok (.goto 4, 3) := by decide +kernel
theorem dJ9_max_7cf53_9 : decode cJ9_max_7cf53 9 = .ok (.iload_n 1, 1) := by decide +kernel
theorem dJ9_max_7cf53_10 : decode cJ9_max_7cf53 10 = .ok (.ireturn, 1) := by decide +kernel
theorem dJ9_min_7cf53_0 : decode cJ9_min_7cf53 0 = .ok (.iload_n 0, 1) := by decide +kernel
theorem dJ9_min_7cf53_1 : decode cJ9_min_7cf53 1 = .ok (.iload_n 1, 1) := by decide +kernel
theorem dJ9_min_7cf53_2 : decode cJ9_min_7cf53 2 = .ok (.if_icmp .gt 7, 3) := by decide +kernel
theorem dJ9_min_7cf53_5 : decode cJ9_min_7cf53 5 = .ok (.iload_n 0, 1) := by decide +kernel
theorem dJ9_min_7cf53_6 : decode cJ9_min_7cf53 6 = .ok (.goto 4, 3) := by decide +kernel
theorem dJ9_min_7cf53_9 : decode cJ9_min_7cf53 9 = .ok (.iload_n 1, 1) := by decide +kernel
theorem dJ9_min_7cf53_10 : decode cJ9_min_7cf53 10 = .ok (.ireturn, 1) := by decide +kernel
set_option maxRecDepth 20000 in
theorem ggJ0_length_8abf5_J0_coder_7d493 : GoodIn wsJ0_length_8abf5 wsJ0_coder_7d493 := goodIn_r _ [6, 7, 8] (by decide +kernel) (by decide +kernel)
set_option maxRecDepth 20000 in
theorem gJ0_length_8abf5_J0_coder_7d493 : GoodIn wsJ0_length_8abf5 (wsV RJ0 335 RJ0 yJ0_coder_7d493 wsJ0_coder_7d493) := goodIn_app (goodIn_of _ (by decide +kernel)) ggJ0_length_8abf5_J0_coder_7d493
theorem dJ0_length_8abf5_0 : decode cJ0_length_8abf5 0 = .ok (.aload_n 0, 1) := by decide +kernel
theorem dJ0_length_8abf5_1 : decode cJ0_length_8abf5 1 = .ok (.getfield 9, 3) := by decide +kernel
theorem dJ0_length_8abf5_4 : decode cJ0_length_8abf5 4 = .ok (.arraylength, 1) := by decide +kernel
theorem dJ0_length_8abf5_5 : decode cJ0_length_8abf5 5 = .ok (.aload_n 0, 1) := by decide +kernel
theorem dJ0_length_8abf5_6 : decode cJ0_length_8abf5 6 = .ok (.invokevirtual 335, 3) := by decide +kernel
theorem dJ0_length_8abf5_9 : decode cJ0_length_8abf5 9 = .ok (.ishr, 1) := by decide +kernel
theorem dJ0_length_8abf5_10 : decode cJ0_length_8abf5 10 = .ok (.ireturn, 1) := by decide +kernel
set_option maxRecDepth 20000 in
theorem ggJ0_charAt_5068e_J0_isLatin1_aae02 : GoodIn wsJ0_charAt_5068e wsJ0_isLatin1_aae02 := goodIn_r _ [6, 7, 8] (by decide +kernel) (by decide +kernel)
set_option maxRecDepth 20000 in
theorem gJ0_charAt_5068e_J0_isLatin1_aae02 : GoodIn wsJ0_charAt_5068e (wsV RJ0 492 RJ0 yJ0_isLatin1_aae02 wsJ0_isLatin1_aae02) := goodIn_app (goodIn_of _ (by decide +kernel)) ggJ0_charAt_5068e_J0_isLatin1_aae02
set_option maxRecDepth 20000 in
theorem ggJ0_charAt_5068e_J1_charAt_3b067 : GoodIn wsJ0_charAt_5068e wsJ1_charAt_3b067 := goodIn_r _ [12, 13, 14, 5, 15, 16, 17, 18, 19, 20] (by decide +kernel) (by decide +kernel)
set_option maxRecDepth 20000 in
theorem gJ0_charAt_5068e_J1_charAt_3b067 : GoodIn wsJ0_charAt_5068e (va_wsS RJ0 495 yJ1_charAt_3b067 wsJ1_charAt_3b067) := goodIn_app (goodIn_of _ (by decide +kernel)) ggJ0_charAt_5068e_J1_charAt_3b067
set_option maxRecDepth 20000 in
theorem ggJ0_charAt_5068e_J2_charAt_3b067 : GoodIn wsJ0_charAt_5068e wsJ2_charAt_3b067 := goodIn_r _ [24, 25, 26, 23, 27, 28, 29, 30, 31, 14, 5, 15, 16, 17, 18, 19, 20, 32, 33, 34, 35, 36, 37] (by decide +kernel) (by decide +kernel)
set_option maxRecDepth 20000 in
theorem gJ0_charAt_5068e_J2_charAt_3b067 : GoodIn wsJ0_charAt_5068e (va_wsS RJ0 498 yJ2_charAt_3b067 wsJ2_charAt_3b067) := goodIn_app (goodIn_of _ (by decide +kernel)) ggJ0_charAt_5068e_J2_charAt_3b067
theorem dJ0_charAt_5068e_0 : decode cJ0_charAt_5068e 0 = .ok (.aload_n 0, 1) := by decide +kernel
theorem dJ0_charAt_5068e_1 : decode cJ0_charAt_5068e 1 = .ok (.invokevirtual 492, 3) := by decide +kernel
theorem dJ0_charAt_5068e_4 : decode cJ0_charAt_5068e 4 = .ok (.ifCond .eq 12, 3) := by decide +kernel
theorem dJ0_charAt_5068e_7 : decode cJ0_charAt_5068e 7 = .ok (.aload_n 0, 1) := by decide +kernel
theorem dJ0_charAt_5068e_8 : decode cJ0_charAt_5068e 8 = .ok (.getfield 9, 3) := by decide +kernel
theorem dJ0_charAt_5068e_11 : decode cJ0_charAt_5068e 11 = .ok (.iload_n 1, 1) := by decide +kernel
theorem dJ0_charAt_5068e_12 : decode cJ0_charAt_5068e 12 = .ok (.invokestatic 495, 3) := by decide +kernel
theorem dJ0_charAt_5068e_15 : decode cJ0_charAt_5068e 15 = .ok (.ireturn, 1) := by decide +kernel
theorem dJ0_charAt_5068e_16 : decode cJ0_charAt_5068e 16 = .ok (.aload_n 0, 1) := by decide +kernel
theorem dJ0_charAt_5068e_17 : decode cJ0_charAt_5068e 17 = .ok (.getfield 9, 3) := by decide +kernel
theorem dJ0_charAt_5068e_20 : decode cJ0_charAt_5068e 20 = .ok (.iload_n 1, 1) := by decide +kernel
theorem dJ0_charAt_5068e_21 : decode cJ0_charAt_5068e 21 = .ok (.invokestatic 498, 3) := by decide +kernel
theorem dJ0_charAt_5068e_24 : decode cJ0_charAt_5068e 24 = .ok (.ireturn, 1) := by decide +kernel
theorem dJ0_coder_7d493_0 : decode cJ0_coder_7d493 0 = .ok (.getstatic 38, 3) := by decide +kernel
theorem dJ0_coder_7d493_3 : decode cJ0_coder_7d493 3 = .ok (.ifCond .eq 10, 3) := by decide +kernel
theorem dJ0_coder_7d493_6 : decode cJ0_coder_7d493 6 = .ok (.aload_n 0, 1) := by decide +kernel
theorem dJ0_coder_7d493_7 : decode cJ0_coder_7d493 7 = .ok (.getfield 15, 3) := by decide +kernel
theorem dJ0_coder_7d493_10 : decode cJ0_coder_7d493 10 = .ok (.goto 4, 3) := by decide +kernel
theorem dJ0_coder_7d493_13 : decode cJ0_coder_7d493 13 = .ok (.iconst 1, 1) := by decide +kernel
theorem dJ0_coder_7d493_14 : decode cJ0_coder_7d493 14 = .ok (.ireturn, 1) := by decide +kernel
theorem dJ0_isLatin1_aae02_0 : decode cJ0_isLatin1_aae02 0 = .ok (.getstatic 38, 3) := by decide +kernel
theorem dJ0_isLatin1_aae02_3 : decode cJ0_isLatin1_aae02 3 = .ok (.ifCond .eq 14, 3) := by decide +kernel
theorem dJ0_isLatin1_aae02_6 : decode cJ0_isLatin1_aae02 6 = .ok (.aload_n 0, 1) := by decide +kernel
theorem dJ0_isLatin1_aae02_7 : decode cJ0_isLatin1_aae02 7 = .ok (.getfield 15, 3) := by decide +kernel
theorem dJ0_isLatin1_aae02_10 : decode cJ0_isLatin1_aae02 10 = .ok (.ifCond .ne 7, 3) := by decide +kernel
theorem dJ0_isLatin1_aae02_13 : decode cJ0_isLatin1_aae02 13 = .ok (.iconst 1, 1) := by decide +kernel
theorem dJ0_isLatin1_aae02_14 : decode cJ0_isLatin1_aae02 14 = .ok (.goto 4, 3) := by decide +kernel
theorem dJ0_isLatin1_aae02_17 : decode cJ0_isLatin1_aae02 17 = .ok (.iconst 0, 1) := by decide +kernel
theorem dJ0_isLatin1_aae02_18 : decode cJ0_isLatin1_aae02 18 = .ok (.ireturn, 1) := by decide +kernel
set_option maxRecDepth 20000 in
theorem ggJ0_checkIndex_df160_J3_checkIndex_8e157 : GoodIn wsJ0_checkIndex_df160 wsJ3_checkIndex_8e157 := goodIn_r _ [5] (by decide +kernel) (by decide +kernel)
set_option maxRecDepth 20000 in
theorem gJ0_checkIndex_df160_J3_checkIndex_8e157 : GoodIn wsJ0_checkIndex_df160 (va_wsS RJ0 1059 yJ3_checkIndex_8e157 wsJ3_checkIndex_8e157) := goodIn_app (goodIn_of _ (by decide +kernel)) ggJ0_checkIndex_df160_J3_checkIndex_8e157
theorem dJ0_checkIndex_df160_0 : decode cJ0_checkIndex_df160 0 = .ok (.iload_n 0, 1) := by decide +kernel
theorem dJ0_checkIndex_df160_1 : decode cJ0_checkIndex_df160 1 = .ok (.iload_n 1, 1) := by decide +kernel
theorem dJ0_checkIndex_df160_2 : decode cJ0_checkIndex_df160 2 = .ok (.getstatic 1053, 3) := by decide +kernel
theorem dJ0_checkIndex_df160_5 : decode cJ0_checkIndex_df160 5 = .ok (.invokestatic 1059, 3) := by decide +kernel
theorem dJ0_checkIndex_df160_8 : decode cJ0_checkIndex_df160 8 = .ok (.pop, 1) := by decide +kernel
theorem dJ0_checkIndex_df160_9 : decode cJ0_checkIndex_df160 9 = .ok (.return_, 1) := by decide +kernel
set_option maxRecDepth 20000 in
theorem ggJ1_charAt_3b067_J0_checkIndex_df160 : GoodIn wsJ1_charAt_3b067 wsJ0_checkIndex_df160 := goodIn_r _ [4, 5, 6, 7, 8, 9] (by decide +kernel) (by decide +kernel)
set_option maxRecDepth 20000 in
theorem gJ1_charAt_3b067_J0_checkIndex_df160 : GoodIn wsJ1_charAt_3b067 (va_wsS RJ1 9 yJ0_checkIndex_df160 wsJ0_checkIndex_df160) := goodIn_app (goodIn_of _ (by decide +kernel)) ggJ1_charAt_3b067_J0_checkIndex_df160
theorem dJ1_charAt_3b067_0 : decode cJ1_charAt_3b067 0 = .ok (.iload_n 1, 1) := by decide +kernel
theorem dJ1_charAt_3b067_1 : decode cJ1_charAt_3b067 1 = .ok (.aload_n 0, 1) := by decide +kernel
theorem dJ1_charAt_3b067_2 : decode cJ1_charAt_3b067 2 = .ok (.arraylength, 1) := by decide +kernel
theorem dJ1_charAt_3b067_3 : decode cJ1_charAt_3b067 3 = .ok (.invokestatic 9, 3) := by decide +kernel
theorem dJ1_charAt_3b067_6 : decode cJ1_charAt_3b067 6 = .ok (.aload_n 0, 1) := by decide +kernel
theorem dJ1_charAt_3b067_7 : decode cJ1_charAt_3b067 7 = .ok (.iload_n 1, 1) := by decide +kernel
theorem dJ1_charAt_3b067_8 : decode cJ1_charAt_3b067 8 = .ok (.baload, 1) := by decide +kernel
theorem dJ1_charAt_3b067_9 : decode cJ1_charAt_3b067 9 = .ok (.sipush 255, 3) := by decide +kernel
theorem dJ1_charAt_3b067_12 : decode cJ1_charAt_3b067 12 = .ok (.iand, 1) := by decide +kernel
theorem dJ1_charAt_3b067_13 : decode cJ1_charAt_3b067 13 = .ok (.i2c, 1) := by decide +kernel
theorem dJ1_charAt_3b067_14 : decode cJ1_charAt_3b067 14 = .ok (.ireturn, 1) := by decide +kernel
set_option maxRecDepth 20000 in
theorem ggJ2_getChar_3b067_J2_length_9d52b : GoodIn wsJ2_getChar_3b067 wsJ2_length_9d52b := goodIn_r _ [7] (by decide +kernel) (by decide +kernel)
set_option maxRecDepth 20000 in
theorem gJ2_getChar_3b067_J2_length_9d52b : GoodIn wsJ2_getChar_3b067 (va_wsS RJ2 48 yJ2_length_9d52b wsJ2_length_9d52b) := goodIn_app (goodIn_of _ (by decide +kernel)) ggJ2_getChar_3b067_J2_length_9d52b
theorem dJ2_getChar_3b067_0 : decode cJ2_getChar_3b067 0 = .ok (.getstatic 44, 3) := by decide +kernel
theorem dJ2_getChar_3b067_3 : decode cJ2_getChar_3b067 3 = .ok (.ifCond .ne 25, 3) := by decide +kernel
theorem dJ2_getChar_3b067_6 : decode cJ2_getChar_3b067 6 = .ok (.iload_n 1, 1) := by decide +kernel
theorem dJ2_getChar_3b067_7 : decode cJ2_getChar_3b067 7 = .ok (.ifCond .lt 11, 3) := by decide +kernel
theorem dJ2_getChar_3b067_10 : decode cJ2_getChar_3b067 10 = .ok (.iload_n 1, 1) := by decide +kernel
theorem dJ2_getChar_3b067_11 : decode cJ2_getChar_3b067 11 = .ok (.aload_n 0, 1) := by decide +kernel
theorem dJ2_getChar_3b067_12 : decode cJ2_getChar_3b067 12 = .ok (.invokestatic 48, 3) := by decide +kernel
theorem dJ2_getChar_3b067_15 : decode cJ2_getChar_3b067 15 = .ok (.if_icmp .lt 13, 3) := by decide +kernel
theorem dJ2_getChar_3b067_18 : decode cJ2_getChar_3b067 18 = .ok (.new 52, 3) := by decide +kernel
theorem dJ2_getChar_3b067_21 : decode cJ2_getChar_3b067 21 = .ok (.dup, 1) := by decide +kernel
theorem dJ2_getChar_3b067_22 : decode cJ2_getChar_3b067 22 = .ok (.ldc 54, 2) := by decide +kernel
theorem dJ2_getChar_3b067_24 : decode cJ2_getChar_3b067 24 = .ok (.invokespecial 56, 3) := by decide +kernel
theorem dJ2_getChar_3b067_27 : decode cJ2_getChar_3b067 27 = .ok (.athrow, 1) := by decide +kernel
theorem dJ2_getChar_3b067_28 : decode cJ2_getChar_3b067 28 = .ok (.iload_n 1, 1) := by decide +kernel
theorem dJ2_getChar_3b067_29 : decode cJ2_getChar_3b067 29 = .ok (.iconst 1, 1) := by decide +kernel
theorem dJ2_getChar_3b067_30 : decode cJ2_getChar_3b067 30 = .ok (.ishl, 1) := by decide +kernel
theorem dJ2_getChar_3b067_31 : decode cJ2_getChar_3b067 31 = .ok (.istore_n 1, 1) := by decide +kernel
theorem dJ2_getChar_3b067_32 : decode cJ2_getChar_3b067 32 = .ok (.aload_n 0, 1) := by decide +kernel
theorem dJ2_getChar_3b067_33 : decode cJ2_getChar_3b067 33 = .ok (.iload_n 1, 1) := by decide +kernel
theorem dJ2_getChar_3b067_34 : decode cJ2_getChar_3b067 34 = .ok (.iinc 1 1, 3) := by decide +kernel
theorem dJ2_getChar_3b067_37 : decode cJ2_getChar_3b067 37 = .ok (.baload, 1) := by decide +kernel
theorem dJ2_getChar_3b067_38 : decode cJ2_getChar_3b067 38 = .ok (.sipush 255, 3) := by decide +kernel
theorem dJ2_getChar_3b067_41 : decode cJ2_getChar_3b067 41 = .ok (.iand, 1) := by decide +kernel
theorem dJ2_getChar_3b067_42 : decode cJ2_getChar_3b067 42 = .ok (.getstatic 59, 3) := by decide +kernel
theorem dJ2_getChar_3b067_45 : decode cJ2_getChar_3b067 45 = .ok (.ishl, 1) := by decide +kernel
theorem dJ2_getChar_3b067_46 : decode cJ2_getChar_3b067 46 = .ok (.aload_n 0, 1) := by decide +kernel
theorem dJ2_getChar_3b067_47 : decode cJ2_getChar_3b067 47 = .ok (.iload_n 1, 1) := by decide +kernel
theorem dJ2_getChar_3b067_48 : decode cJ2_getChar_3b067 48 = .ok (.baload, 1) := by decide +kernel
theorem dJ2_getChar_3b067_49 : decode cJ2_getChar_3b067 49 = .ok (.sipush 255, 3) := by decide +kernel
theorem dJ2_getChar_3b067_52 : decode cJ2_getChar_3b067 52 = .ok (.iand, 1) := by decide +kernel
theorem dJ2_getChar_3b067_53 : decode cJ2_getChar_3b067 53 = .ok (.getstatic 63, 3) := by decide +kernel
theorem dJ2_getChar_3b067_56 : decode cJ2_getChar_3b067 56 = .ok (.ishl, 1) := by decide +kernel
theorem dJ2_getChar_3b067_57 : decode cJ2_getChar_3b067 57 = .ok (.ior, 1) := by decide +kernel
theorem dJ2_getChar_3b067_58 : decode cJ2_getChar_3b067 58 = .ok (.i2c, 1) := by decide +kernel
theorem dJ2_getChar_3b067_59 : decode cJ2_getChar_3b067 59 = .ok (.ireturn, 1) := by decide +kernel
theorem dJ2_length_9d52b_0 : decode cJ2_length_9d52b 0 = .ok (.aload_n 0, 1) := by decide +kernel
theorem dJ2_length_9d52b_1 : decode cJ2_length_9d52b 1 = .ok (.arraylength, 1) := by decide +kernel
theorem dJ2_length_9d52b_2 : decode cJ2_length_9d52b 2 = .ok (.iconst 1, 1) := by decide +kernel
theorem dJ2_length_9d52b_3 : decode cJ2_length_9d52b 3 = .ok (.ishr, 1) := by decide +kernel
theorem dJ2_length_9d52b_4 : decode cJ2_length_9d52b 4 = .ok (.ireturn, 1) := by decide +kernel
set_option maxRecDepth 20000 in
theorem ggJ2_charAt_3b067_J2_checkIndex_2214a : GoodIn wsJ2_charAt_3b067 wsJ2_checkIndex_2214a := goodIn_r _ [4, 5, 6, 3, 7, 8, 9, 10, 11, 12, 13, 14, 15, 16] (by decide +kernel) (by decide +kernel)
set_option maxRecDepth 20000 in
theorem gJ2_charAt_3b067_J2_checkIndex_2214a : GoodIn wsJ2_charAt_3b067 (va_wsS RJ2 67 yJ2_checkIndex_2214a wsJ2_checkIndex_2214a) := goodIn_app (goodIn_of _ (by decide +kernel)) ggJ2_charAt_3b067_J2_checkIndex_2214a
set_option maxRecDepth 20000 in
theorem ggJ2_charAt_3b067_J2_getChar_3b067 : GoodIn wsJ2_charAt_3b067 wsJ2_getChar_3b067 := goodIn_r _ [19, 20, 21, 22, 5, 6, 3, 7] (by decide +kernel) (by decide +kernel)
set_option maxRecDepth 20000 in
theorem gJ2_charAt_3b067_J2_getChar_3b067 : GoodIn wsJ2_charAt_3b067 (va_wsS RJ2 71 yJ2_getChar_3b067 wsJ2_getChar_3b067) := goodIn_app (goodIn_of _ (by decide +kernel)) ggJ2_charAt_3b067_J2_getChar_3b067
theorem dJ2_charAt_3b067_0 : decode cJ2_charAt_3b067 0 = .ok (.iload_n 1, 1) := by decide +kernel
theorem dJ2_charAt_3b067_1 : decode cJ2_charAt_3b067 1 = .ok (.aload_n 0, 1) := by decide +kernel
theorem dJ2_charAt_3b067_2 : decode cJ2_charAt_3b067 2 = .ok (.invokestatic 67, 3) := by decide +kernel
theorem dJ2_charAt_3b067_5 : decode cJ2_charAt_3b067 5 = .ok (.aload_n 0, 1) := by decide +kernel
theorem dJ2_charAt_3b067_6 : decode cJ2_charAt_3b067 6 = .ok (.iload_n 1, 1) := by decide +kernel
theorem dJ2_charAt_3b067_7 : decode cJ2_charAt_3b067 7 = .ok (.invokestatic 71, 3) := by decide +kernel
theorem dJ2_charAt_3b067_10 : decode cJ2_charAt_3b067 10 = .ok (.ireturn, 1) := by decide +kernel
set_option maxRecDepth 20000 in
theorem ggJ2_checkIndex_2214a_J2_length_9d52b : GoodIn wsJ2_checkIndex_2214a wsJ2_length_9d52b := goodIn_r _ [4] (by decide +kernel) (by decide +kernel)
set_option maxRecDepth 20000 in
theorem gJ2_checkIndex_2214a_J2_length_9d52b : GoodIn wsJ2_checkIndex_2214a (va_wsS RJ2 48 yJ2_length_9d52b wsJ2_length_9d52b) := goodIn_app (goodIn_of _ (by decide +kernel)) ggJ2_checkIndex_2214a_J2_length_9d52b
set_option maxRecDepth 20000 in
theorem ggJ2_checkIndex_2214a_J0_checkIndex_df160 : GoodIn wsJ2_checkIndex_2214a wsJ0_checkIndex_df160 := goodIn_r _ [8, 9, 10, 11, 12, 13] (by decide +kernel) (by decide +kernel)
set_option maxRecDepth 20000 in
theorem gJ2_checkIndex_2214a_J0_checkIndex_df160 : GoodIn wsJ2_checkIndex_2214a (va_wsS RJ2 414 yJ0_checkIndex_df160 wsJ0_checkIndex_df160) := goodIn_app (goodIn_of _ (by decide +kernel)) ggJ2_checkIndex_2214a_J0_checkIndex_df160
theorem dJ2_checkIndex_2214a_0 : decode cJ2_checkIndex_2214a 0 = .ok (.iload_n 0, 1) := by decide +kernel
theorem dJ2_checkIndex_2214a_1 : decode cJ2_checkIndex_2214a 1 = .ok (.aload_n 1, 1) := by decide +kernel
theorem dJ2_checkIndex_2214a_2 : decode cJ2_checkIndex_2214a 2 = .ok (.invokestatic 48, 3) := by decide +kernel
theorem dJ2_checkIndex_2214a_5 : decode cJ2_checkIndex_2214a 5 = .ok (.invokestatic 414, 3) := by decide +kernel
theorem dJ2_checkIndex_2214a_8 : decode cJ2_checkIndex_2214a 8 = .ok (.return_, 1) := by decide +kernel
theorem dJ3_checkIndex_8e157_0 : decode cJ3_checkIndex_8e157 0 = .ok (.iload_n 0, 1) := by decide +kernel
theorem dJ3_checkIndex_8e157_1 : decode cJ3_checkIndex_8e157 1 = .ok (.ifCond .lt 8, 3) := by decide +kernel
theorem dJ3_checkIndex_8e157_4 : decode cJ3_checkIndex_8e157 4 = .ok (.iload_n 0, 1) := by decide +kernel
theorem dJ3_checkIndex_8e157_5 : decode cJ3_checkIndex_8e157 5 = .ok (.iload_n 1, 1) := by decide +kernel
theorem dJ3_checkIndex_8e157_6 : decode cJ3_checkIndex_8e157 6 = .ok (.if_icmp .lt 10, 3) := by decide +kernel
theorem dJ3_checkIndex_8e157_9 : decode cJ3_checkIndex_8e157 9 = .ok (.aload_n 2, 1) := by decide +kernel
theorem dJ3_checkIndex_8e157_10 : decode cJ3_checkIndex_8e157 10 = .ok (.iload_n 0, 1) := by decide +kernel
theorem dJ3_checkIndex_8e157_11 : decode cJ3_checkIndex_8e157 11 = .ok (.iload_n 1, 1) := by decide +kernel
theorem dJ3_checkIndex_8e157_12 : decode cJ3_checkIndex_8e157 12 = .ok (.invokestatic 95, 3) := by decide +kernel
theorem dJ3_checkIndex_8e157_15 : decode cJ3_checkIndex_8e157 15 = .ok (.athrow, 1) := by decide +kernel
theorem dJ3_checkIndex_8e157_16 : decode cJ3_checkIndex_8e157 16 = .ok (.iload_n 0, 1) := by decide +kernel
theorem dJ3_checkIndex_8e157_17 : decode cJ3_checkIndex_8e157 17 = .ok (.ireturn, 1) := by decide +kernel
