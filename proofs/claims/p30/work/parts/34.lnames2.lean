theorem dL_acts_713 : decode cL_acts 713 = .ok (.iaload, 1) := by decide +kernel
theorem dL_acts_714 : decode cL_acts 714 = .ok (.iastore, 1) := by decide +kernel
theorem dL_acts_715 : decode cL_acts 715 = .ok (.aload_n 0, 1) := by decide +kernel
theorem dL_acts_716 : decode cL_acts 716 = .ok (.iload 8, 2) := by decide +kernel
theorem dL_acts_718 : decode cL_acts 718 = .ok (.iload 9, 2) := by decide +kernel
theorem dL_acts_720 : decode cL_acts 720 = .ok (.invokestatic 88, 3) := by decide +kernel
theorem dL_acts_723 : decode cL_acts 723 = .ok (.iload 10, 2) := by decide +kernel
theorem dL_acts_725 : decode cL_acts 725 = .ok (.ifCond .eq 8, 3) := by decide +kernel
theorem dL_acts_728 : decode cL_acts 728 = .ok (.iload 11, 2) := by decide +kernel
theorem dL_acts_730 : decode cL_acts 730 = .ok (.goto 5, 3) := by decide +kernel
theorem dL_acts_733 : decode cL_acts 733 = .ok (.ldc 20, 2) := by decide +kernel
theorem dL_acts_735 : decode cL_acts 735 = .ok (.if_icmp .ne 7, 3) := by decide +kernel
theorem dL_acts_738 : decode cL_acts 738 = .ok (.iconst 1, 1) := by decide +kernel
theorem dL_acts_739 : decode cL_acts 739 = .ok (.goto 4, 3) := by decide +kernel
theorem dL_acts_742 : decode cL_acts 742 = .ok (.iconst 0, 1) := by decide +kernel
theorem dL_acts_743 : decode cL_acts 743 = .ok (.ireturn, 1) := by decide +kernel
theorem dL_acts_744 : decode cL_acts 744 = .ok (.aload_n 3, 1) := by decide +kernel
theorem dL_acts_745 : decode cL_acts 745 = .ok (.iload 8, 2) := by decide +kernel
theorem dL_acts_747 : decode cL_acts 747 = .ok (.iaload, 1) := by decide +kernel
theorem dL_acts_748 : decode cL_acts 748 = .ok (.istore 9, 2) := by decide +kernel
theorem dL_acts_750 : decode cL_acts 750 = .ok (.aload_n 3, 1) := by decide +kernel
theorem dL_acts_751 : decode cL_acts 751 = .ok (.iload 8, 2) := by decide +kernel
theorem dL_acts_753 : decode cL_acts 753 = .ok (.iconst (-1), 1) := by decide +kernel
theorem dL_acts_754 : decode cL_acts 754 = .ok (.iastore, 1) := by decide +kernel
theorem dL_acts_755 : decode cL_acts 755 = .ok (.aload_n 0, 1) := by decide +kernel
theorem dL_acts_756 : decode cL_acts 756 = .ok (.iload 8, 2) := by decide +kernel
theorem dL_acts_758 : decode cL_acts 758 = .ok (.invokestatic 91, 3) := by decide +kernel
theorem dL_acts_761 : decode cL_acts 761 = .ok (.iload 9, 2) := by decide +kernel
theorem dL_acts_763 : decode cL_acts 763 = .ok (.ifCond .ge 8, 3) := by decide +kernel
theorem dL_acts_766 : decode cL_acts 766 = .ok (.ldc 20, 2) := by decide +kernel
theorem dL_acts_768 : decode cL_acts 768 = .ok (.goto 5, 3) := by decide +kernel
theorem dL_acts_771 : decode cL_acts 771 = .ok (.iload 9, 2) := by decide +kernel
theorem dL_acts_773 : decode cL_acts 773 = .ok (.if_icmp .ne 7, 3) := by decide +kernel
theorem dL_acts_776 : decode cL_acts 776 = .ok (.iconst 1, 1) := by decide +kernel
theorem dL_acts_777 : decode cL_acts 777 = .ok (.goto 4, 3) := by decide +kernel
theorem dL_acts_780 : decode cL_acts 780 = .ok (.iconst 0, 1) := by decide +kernel
theorem dL_acts_781 : decode cL_acts 781 = .ok (.ireturn, 1) := by decide +kernel
set_option maxRecDepth 20000 in
theorem ggL_memberOf_X7_member : GoodIn wsL_memberOf wsX7_member := goodIn_ca (goodIn_ca (goodIn_ca (goodIn_r _ [9, 10, 11, 12, 13, 14, 15, 16, 17, 18, 19, 20, 21, 22, 8, 23, 24, 25, 26, 27, 28, 29, 30, 31, 32, 33, 34, 35, 36, 37, 38, 39, 40, 41, 42, 43, 44, 45, 46, 47, 48, 49, 50, 51, 52, 53, 54, 55, 56, 57, 58, 59, 60, 61, 62, 63, 64, 65, 66, 67, 68, 69, 70, 71, 72, 73, 74, 75, 76, 77, 78, 79, 80, 81, 82, 83, 84, 85, 86, 87, 88, 89, 90, 91, 92, 93, 94, 95, 96, 97, 98, 99, 100, 101, 102, 103, 104, 105, 106, 107, 108, 109, 110, 111, 112, 113, 114, 115, 116, 117, 118, 119, 120, 121, 122, 123, 124, 125, 126, 127, 128, 129, 130, 131, 132, 133, 134, 135, 136, 137, 138, 139, 140, 141, 142, 143, 144, 145, 146, 147, 148, 149, 150, 151, 152, 153, 154, 155, 156, 157, 158, 159, 160, 161, 162, 163, 164, 165, 166, 167, 168, 169, 170, 171, 172, 173, 174, 175, 176, 177, 178, 179, 180, 181, 182, 183, 184, 185, 186, 187, 188, 189, 190, 191, 192, 193] (by decide +kernel) (by decide +kernel)) (goodIn_sub (fun _ h => List.mem_cons_of_mem _ (List.mem_append_left _ (List.mem_append_left _ (List.mem_append_right _ h)))) (by decide +kernel))) (goodIn_sub (fun _ h => List.mem_cons_of_mem _ (List.mem_append_left _ (List.mem_append_right _ h))) (by decide +kernel))) (goodIn_sub (fun _ h => List.mem_cons_of_mem _ (List.mem_append_right _ h)) (by decide +kernel))
set_option maxRecDepth 20000 in
theorem gL_memberOf_X7_member : GoodIn wsL_memberOf (wsV RL 94 RX7 yX7_member wsX7_member) := goodIn_app (goodIn_of _ (by decide +kernel)) ggL_memberOf_X7_member
theorem dL_memberOf_0 : decode cL_memberOf 0 = .ok (.aload_n 0, 1) := by decide +kernel
theorem dL_memberOf_1 : decode cL_memberOf 1 = .ok (.iload_n 1, 1) := by decide +kernel
theorem dL_memberOf_2 : decode cL_memberOf 2 = .ok (.iload_n 2, 1) := by decide +kernel
theorem dL_memberOf_3 : decode cL_memberOf 3 = .ok (.invokevirtual 94, 3) := by decide +kernel
theorem dL_memberOf_6 : decode cL_memberOf 6 = .ok (.ireturn, 1) := by decide +kernel
theorem dL_memberOf_7 : decode cL_memberOf 7 = .ok (.astore_n 3, 1) := by decide +kernel
theorem dL_memberOf_8 : decode cL_memberOf 8 = .ok (.ldc 27, 2) := by decide +kernel
theorem dL_memberOf_10 : decode cL_memberOf 10 = .ok (.ireturn, 1) := by decide +kernel
theorem dL_memberOf_11 : decode cL_memberOf 11 = .ok (.astore_n 3, 1) := by decide +kernel
theorem dL_memberOf_12 : decode cL_memberOf 12 = .ok (.ldc 17, 2) := by decide +kernel
theorem dL_memberOf_14 : decode cL_memberOf 14 = .ok (.ireturn, 1) := by decide +kernel
set_option maxRecDepth 20000 in
theorem ggL_ruleOf_X7_rule : GoodIn wsL_ruleOf wsX7_rule := goodIn_ca (goodIn_ca (goodIn_ca (goodIn_r _ [9, 10, 11, 12, 13, 14, 15, 16, 17, 18, 8, 19, 20, 21, 22, 23, 24, 25, 26, 27, 28, 29, 30, 31, 32, 33, 34, 35, 36, 37, 38, 39, 40, 41, 42, 43, 44, 45, 46, 47, 48, 49, 50, 51, 52, 53, 54, 55, 56, 57, 58, 59, 60, 61, 62, 63, 64, 65, 66, 67, 68, 69, 70, 71, 72, 73] (by decide +kernel) (by decide +kernel)) (goodIn_sub (fun _ h => List.mem_cons_of_mem _ (List.mem_append_left _ (List.mem_append_left _ (List.mem_append_right _ h)))) (by decide +kernel))) (goodIn_sub (fun _ h => List.mem_cons_of_mem _ (List.mem_append_left _ (List.mem_append_right _ h))) (by decide +kernel))) (goodIn_sub (fun _ h => List.mem_cons_of_mem _ (List.mem_append_right _ h)) (by decide +kernel))
set_option maxRecDepth 20000 in
theorem gL_ruleOf_X7_rule : GoodIn wsL_ruleOf (wsV RL 97 RX7 yX7_rule wsX7_rule) := goodIn_app (goodIn_of _ (by decide +kernel)) ggL_ruleOf_X7_rule
theorem dL_ruleOf_0 : decode cL_ruleOf 0 = .ok (.aload_n 0, 1) := by decide +kernel
theorem dL_ruleOf_1 : decode cL_ruleOf 1 = .ok (.iload_n 1, 1) := by decide +kernel
theorem dL_ruleOf_2 : decode cL_ruleOf 2 = .ok (.iload_n 2, 1) := by decide +kernel
theorem dL_ruleOf_3 : decode cL_ruleOf 3 = .ok (.invokevirtual 97, 3) := by decide +kernel
theorem dL_ruleOf_6 : decode cL_ruleOf 6 = .ok (.ireturn, 1) := by decide +kernel
theorem dL_ruleOf_7 : decode cL_ruleOf 7 = .ok (.astore_n 3, 1) := by decide +kernel
theorem dL_ruleOf_8 : decode cL_ruleOf 8 = .ok (.ldc 27, 2) := by decide +kernel
theorem dL_ruleOf_10 : decode cL_ruleOf 10 = .ok (.ireturn, 1) := by decide +kernel
theorem dL_ruleOf_11 : decode cL_ruleOf 11 = .ok (.astore_n 3, 1) := by decide +kernel
theorem dL_ruleOf_12 : decode cL_ruleOf 12 = .ok (.ldc 17, 2) := by decide +kernel
theorem dL_ruleOf_14 : decode cL_ruleOf 14 = .ok (.ireturn, 1) := by decide +kernel
set_option maxRecDepth 20000 in
theorem ggL_wholeOf_X7_whole : GoodIn wsL_wholeOf wsX7_whole := goodIn_ca (goodIn_ca (goodIn_ca (goodIn_r _ [7, 8, 9, 6, 10, 11, 12, 13, 14, 15, 16, 17, 18, 19, 20, 21, 22, 23, 24, 25, 26, 27, 28, 29, 30, 31, 32, 33, 34, 35, 36, 37, 38, 39, 40, 41, 42, 43, 44, 45, 46, 47, 48, 49, 50, 51, 52, 53, 54, 55, 56, 57, 58, 59, 60, 61, 62, 63, 64, 65, 66, 67, 68, 69, 70, 71, 72, 73, 74, 75, 76, 77, 78, 79, 80, 81, 82, 83, 84, 85, 86, 87, 88, 89, 90, 91, 92, 93, 94, 95, 96, 97, 98, 99, 100, 101, 102, 103, 104, 105, 106, 107, 108, 109, 110, 111, 112, 113, 114, 115, 116, 117, 118, 119, 120, 121, 122, 123, 124, 125, 126, 127, 128, 129, 130, 131, 132, 133, 134, 135, 136, 137, 138, 139, 140, 141, 142, 143, 144, 145, 146, 147, 148, 149, 150, 151, 152, 153, 154, 155, 156, 157, 158, 159, 160, 161, 162, 163, 164, 165, 166, 167, 168, 169, 170, 171, 172, 173, 174, 175, 176, 177, 178, 179, 180, 181, 182, 183, 184, 185, 186, 187, 188, 189, 190, 191, 192, 193, 194, 195, 196, 197, 198, 199, 200] (by decide +kernel) (by decide +kernel)) (goodIn_sub (fun _ h => List.mem_cons_of_mem _ (List.mem_append_left _ (List.mem_append_left _ (List.mem_append_right _ h)))) (by decide +kernel))) (goodIn_sub (fun _ h => List.mem_cons_of_mem _ (List.mem_append_left _ (List.mem_append_right _ h))) (by decide +kernel))) (goodIn_sub (fun _ h => List.mem_cons_of_mem _ (List.mem_append_right _ h)) (by decide +kernel))
set_option maxRecDepth 20000 in
theorem gL_wholeOf_X7_whole : GoodIn wsL_wholeOf (wsV RL 100 RX7 yX7_whole wsX7_whole) := goodIn_app (goodIn_of _ (by decide +kernel)) ggL_wholeOf_X7_whole
theorem dL_wholeOf_0 : decode cL_wholeOf 0 = .ok (.aload_n 0, 1) := by decide +kernel
theorem dL_wholeOf_1 : decode cL_wholeOf 1 = .ok (.iload_n 1, 1) := by decide +kernel
theorem dL_wholeOf_2 : decode cL_wholeOf 2 = .ok (.invokevirtual 100, 3) := by decide +kernel
theorem dL_wholeOf_5 : decode cL_wholeOf 5 = .ok (.ireturn, 1) := by decide +kernel
theorem dL_wholeOf_6 : decode cL_wholeOf 6 = .ok (.astore_n 2, 1) := by decide +kernel
theorem dL_wholeOf_7 : decode cL_wholeOf 7 = .ok (.ldc 17, 2) := by decide +kernel
theorem dL_wholeOf_9 : decode cL_wholeOf 9 = .ok (.ireturn, 1) := by decide +kernel
set_option maxRecDepth 20000 in
theorem ggL_winsOf_X7_wins : GoodIn wsL_winsOf wsX7_wins := goodIn_ca (goodIn_ca (goodIn_ca (goodIn_r _ [7, 8, 9, 10, 11, 12, 13, 14, 15, 16, 17, 18, 19, 6, 20, 21, 22, 23, 24, 25, 26, 27, 28, 29, 30, 31, 32, 33, 34, 35, 36, 37, 38, 39, 40, 41, 42, 43, 44, 45, 46, 47, 48, 49, 50, 51, 52, 53, 54, 55, 56, 57, 58, 59, 60, 61, 62, 63, 64, 65, 66, 67, 68, 69, 70, 71, 72, 73, 74, 75, 76, 77, 78, 79, 80, 81, 82, 83, 84, 85, 86, 87, 88, 89, 90, 91, 92, 93, 94, 95, 96, 97, 98, 99, 100, 101, 102, 103, 104, 105, 106, 107, 108, 109, 110, 111, 112, 113, 114, 115, 116, 117, 118, 119, 120, 121, 122, 123, 124, 125, 126, 127, 128, 129, 130, 131, 132, 133, 134, 135, 136, 137, 138, 139, 140, 141, 142, 143, 144, 145, 146, 147, 148, 149, 150, 151, 152, 153, 154, 155, 156, 157, 158, 159, 160, 161, 162, 163, 164, 165, 166, 167, 168, 169, 170] (by decide +kernel) (by decide +kernel)) (goodIn_sub (fun _ h => List.mem_cons_of_mem _ (List.mem_append_left _ (List.mem_append_left _ (List.mem_append_right _ h)))) (by decide +kernel))) (goodIn_sub (fun _ h => List.mem_cons_of_mem _ (List.mem_append_left _ (List.mem_append_right _ h))) (by decide +kernel))) (goodIn_sub (fun _ h => List.mem_cons_of_mem _ (List.mem_append_right _ h)) (by decide +kernel))
set_option maxRecDepth 20000 in
theorem gL_winsOf_X7_wins : GoodIn wsL_winsOf (wsV RL 103 RX7 yX7_wins wsX7_wins) := goodIn_app (goodIn_of _ (by decide +kernel)) ggL_winsOf_X7_wins
theorem dL_winsOf_0 : decode cL_winsOf 0 = .ok (.aload_n 0, 1) := by decide +kernel
theorem dL_winsOf_1 : decode cL_winsOf 1 = .ok (.iload_n 1, 1) := by decide +kernel
theorem dL_winsOf_2 : decode cL_winsOf 2 = .ok (.invokevirtual 103, 3) := by decide +kernel
theorem dL_winsOf_5 : decode cL_winsOf 5 = .ok (.ireturn, 1) := by decide +kernel
theorem dL_winsOf_6 : decode cL_winsOf 6 = .ok (.astore_n 2, 1) := by decide +kernel
theorem dL_winsOf_7 : decode cL_winsOf 7 = .ok (.ldc 17, 2) := by decide +kernel
theorem dL_winsOf_9 : decode cL_winsOf 9 = .ok (.ireturn, 1) := by decide +kernel
set_option maxRecDepth 20000 in
theorem ggL_leastOf_X7_least : GoodIn wsL_leastOf wsX7_least := goodIn_ca (goodIn_ca (goodIn_ca (goodIn_r _ [7, 8, 9, 6, 10, 11, 12, 13, 14, 15, 16, 17, 18, 19, 20, 21, 22, 23, 24, 25, 26, 27, 28, 29, 30, 31, 32, 33, 34, 35, 36, 37, 38, 39, 40, 41, 42, 43, 44, 45, 46, 47, 48, 49, 50, 51, 52, 53, 54, 55, 56, 57, 58, 59, 60, 61, 62, 63, 64, 65, 66, 67, 68, 69, 70, 71, 72, 73, 74, 75, 76, 77, 78, 79, 80, 81, 82, 83, 84, 85, 86, 87, 88, 89, 90, 91, 92, 93, 94, 95, 96, 97, 98, 99, 100, 101, 102, 103, 104, 105, 106, 107, 108, 109, 110, 111, 112, 113, 114, 115, 116, 117, 118, 119, 120, 121, 122, 123, 124, 125, 126, 127, 128, 129, 130, 131, 132, 133, 134, 135, 136, 137, 138, 139, 140, 141, 142, 143, 144, 145, 146, 147, 148, 149, 150, 151, 152, 153, 154, 155, 156, 157, 158, 159, 160, 161, 162, 163] (by decide +kernel) (by decide +kernel)) (goodIn_sub (fun _ h => List.mem_cons_of_mem _ (List.mem_append_left _ (List.mem_append_left _ (List.mem_append_right _ h)))) (by decide +kernel))) (goodIn_sub (fun _ h => List.mem_cons_of_mem _ (List.mem_append_left _ (List.mem_append_right _ h))) (by decide +kernel))) (goodIn_sub (fun _ h => List.mem_cons_of_mem _ (List.mem_append_right _ h)) (by decide +kernel))
set_option maxRecDepth 20000 in
theorem gL_leastOf_X7_least : GoodIn wsL_leastOf (wsV RL 106 RX7 yX7_least wsX7_least) := goodIn_app (goodIn_of _ (by decide +kernel)) ggL_leastOf_X7_least
theorem dL_leastOf_0 : decode cL_leastOf 0 = .ok (.aload_n 0, 1) := by decide +kernel
theorem dL_leastOf_1 : decode cL_leastOf 1 = .ok (.iload_n 1, 1) := by decide +kernel
theorem dL_leastOf_2 : decode cL_leastOf 2 = .ok (.invokevirtual 106, 3) := by decide +kernel
theorem dL_leastOf_5 : decode cL_leastOf 5 = .ok (.ireturn, 1) := by decide +kernel
theorem dL_leastOf_6 : decode cL_leastOf 6 = .ok (.astore_n 2, 1) := by decide +kernel
theorem dL_leastOf_7 : decode cL_leastOf 7 = .ok (.ldc 17, 2) := by decide +kernel
theorem dL_leastOf_9 : decode cL_leastOf 9 = .ok (.ireturn, 1) := by decide +kernel
set_option maxRecDepth 20000 in
theorem ggL_shareOf_X7_share : GoodIn wsL_shareOf wsX7_share := goodIn_ca (goodIn_ca (goodIn_ca (goodIn_r _ [7, 8, 9, 10, 11, 12, 13, 14, 15, 16, 17, 18, 19, 20, 6, 21, 22, 23, 24, 25, 26, 27, 28, 29, 30, 31, 32, 33, 34, 35, 36, 37, 38, 39, 40, 41, 42, 43, 44, 45, 46, 47, 48, 49, 50, 51, 52, 53, 54, 55, 56, 57, 58, 59, 60, 61, 62, 63, 64, 65, 66, 67, 68, 69, 70, 71, 72, 73, 74, 75, 76, 77, 78, 79, 80, 81, 82, 83, 84, 85, 86, 87, 88, 89, 90, 91, 92, 93, 94, 95, 96, 97, 98, 99, 100, 101, 102, 103, 104, 105, 106, 107, 108, 109, 110, 111, 112, 113, 114, 115, 116, 117, 118, 119, 120, 121, 122, 123, 124, 125, 126, 127, 128, 129, 130, 131, 132, 133, 134, 135, 136, 137, 138, 139, 140, 141, 142, 143, 144, 145, 146, 147, 148, 149, 150, 151, 152, 153, 154, 155, 156, 157, 158, 159, 160, 161, 162, 163, 164, 165, 166, 167, 168, 169, 170] (by decide +kernel) (by decide +kernel)) (goodIn_sub (fun _ h => List.mem_cons_of_mem _ (List.mem_append_left _ (List.mem_append_left _ (List.mem_append_right _ h)))) (by decide +kernel))) (goodIn_sub (fun _ h => List.mem_cons_of_mem _ (List.mem_append_left _ (List.mem_append_right _ h))) (by decide +kernel))) (goodIn_sub (fun _ h => List.mem_cons_of_mem _ (List.mem_append_right _ h)) (by decide +kernel))
set_option maxRecDepth 20000 in
theorem gL_shareOf_X7_share : GoodIn wsL_shareOf (wsV RL 109 RX7 yX7_share wsX7_share) := goodIn_app (goodIn_of _ (by decide +kernel)) ggL_shareOf_X7_share
theorem dL_shareOf_0 : decode cL_shareOf 0 = .ok (.aload_n 0, 1) := by decide +kernel
theorem dL_shareOf_1 : decode cL_shareOf 1 = .ok (.iload_n 1, 1) := by decide +kernel
theorem dL_shareOf_2 : decode cL_shareOf 2 = .ok (.invokevirtual 109, 3) := by decide +kernel
theorem dL_shareOf_5 : decode cL_shareOf 5 = .ok (.f2d, 1) := by decide +kernel
theorem dL_shareOf_6 : decode cL_shareOf 6 = .ok (.dreturn, 1) := by decide +kernel
theorem dL_shareOf_7 : decode cL_shareOf 7 = .ok (.astore_n 2, 1) := by decide +kernel
theorem dL_shareOf_8 : decode cL_shareOf 8 = .ok (.ldc2_w 113, 3) := by decide +kernel
theorem dL_shareOf_11 : decode cL_shareOf 11 = .ok (.dreturn, 1) := by decide +kernel
set_option maxRecDepth 20000 in
theorem ggL_partOf_X7_part : GoodIn wsL_partOf wsX7_part := goodIn_ca (goodIn_ca (goodIn_ca (goodIn_r _ [7, 8, 9, 10, 11, 12, 13, 14, 15, 16, 17, 18, 19, 20, 6, 21, 22, 23, 24, 25, 26, 27, 28, 29, 30, 31, 32, 33, 34, 35, 36, 37, 38, 39, 40, 41, 42, 43, 44, 45, 46, 47, 48, 49, 50, 51, 52, 53, 54, 55, 56, 57, 58, 59, 60, 61, 62, 63, 64, 65, 66, 67, 68, 69, 70, 71, 72, 73, 74, 75, 76, 77, 78, 79, 80, 81, 82, 83, 84, 85, 86, 87, 88, 89, 90, 91, 92, 93, 94, 95, 96, 97, 98, 99, 100, 101, 102, 103, 104, 105, 106, 107, 108, 109, 110, 111, 112, 113, 114, 115, 116, 117, 118, 119, 120, 121, 122, 123, 124, 125, 126, 127, 128, 129, 130, 131, 132, 133, 134, 135, 136, 137, 138, 139, 140, 141, 142, 143, 144, 145, 146, 147, 148, 149, 150, 151, 152, 153, 154, 155, 156, 157, 158, 159, 160, 161, 162, 163, 164, 165, 166, 167, 168, 169, 170] (by decide +kernel) (by decide +kernel)) (goodIn_sub (fun _ h => List.mem_cons_of_mem _ (List.mem_append_left _ (List.mem_append_left _ (List.mem_append_right _ h)))) (by decide +kernel))) (goodIn_sub (fun _ h => List.mem_cons_of_mem _ (List.mem_append_left _ (List.mem_append_right _ h))) (by decide +kernel))) (goodIn_sub (fun _ h => List.mem_cons_of_mem _ (List.mem_append_right _ h)) (by decide +kernel))
set_option maxRecDepth 20000 in
theorem gL_partOf_X7_part : GoodIn wsL_partOf (wsV RL 115 RX7 yX7_part wsX7_part) := goodIn_app (goodIn_of _ (by decide +kernel)) ggL_partOf_X7_part
theorem dL_partOf_0 : decode cL_partOf 0 = .ok (.aload_n 0, 1) := by decide +kernel
theorem dL_partOf_1 : decode cL_partOf 1 = .ok (.iload_n 1, 1) := by decide +kernel
theorem dL_partOf_2 : decode cL_partOf 2 = .ok (.invokevirtual 115, 3) := by decide +kernel
theorem dL_partOf_5 : decode cL_partOf 5 = .ok (.dreturn, 1) := by decide +kernel
theorem dL_partOf_6 : decode cL_partOf 6 = .ok (.astore_n 2, 1) := by decide +kernel
theorem dL_partOf_7 : decode cL_partOf 7 = .ok (.ldc2_w 113, 3) := by decide +kernel
theorem dL_partOf_10 : decode cL_partOf 10 = .ok (.dreturn, 1) := by decide +kernel
set_option maxRecDepth 20000 in
theorem ggL_isSo_L_table : GoodIn wsL_isSo wsL_table := goodIn_r _ [7, 8, 9, 10, 6, 11, 12, 13, 14] (by decide +kernel) (by decide +kernel)
set_option maxRecDepth 20000 in
theorem gL_isSo_L_table : GoodIn wsL_isSo (va_wsS RL 119 yL_table wsL_table) := goodIn_app (goodIn_of _ (by decide +kernel)) ggL_isSo_L_table
set_option maxRecDepth 20000 in
theorem ggL_isSo_L_players : GoodIn wsL_isSo wsL_players := goodIn_r _ [11] (by decide +kernel) (by decide +kernel)
set_option maxRecDepth 20000 in
theorem gL_isSo_L_players : GoodIn wsL_isSo (va_wsS RL 43 yL_players wsL_players) := goodIn_app (goodIn_of _ (by decide +kernel)) ggL_isSo_L_players
set_option maxRecDepth 20000 in
theorem ggL_isSo_L_sum : GoodIn wsL_isSo wsL_sum := goodIn_r _ [17, 18, 19, 6, 20, 21, 22, 23] (by decide +kernel) (by decide +kernel)
set_option maxRecDepth 20000 in
theorem gL_isSo_L_sum : GoodIn wsL_isSo (va_wsS RL 123 yL_sum wsL_sum) := goodIn_app (goodIn_of _ (by decide +kernel)) ggL_isSo_L_sum
set_option maxRecDepth 20000 in
theorem ggL_isSo_L_at : GoodIn wsL_isSo wsL_at := goodIn_r _ [23] (by decide +kernel) (by decide +kernel)
set_option maxRecDepth 20000 in
theorem gL_isSo_L_at : GoodIn wsL_isSo (va_wsS RL 53 yL_at wsL_at) := goodIn_app (goodIn_of _ (by decide +kernel)) ggL_isSo_L_at
set_option maxRecDepth 20000 in
theorem ggL_isSo_L_leastOf : GoodIn wsL_isSo wsL_leastOf := goodIn_ca (goodIn_ca (goodIn_ca (goodIn_r _ [26, 27, 1, 28, 29, 30, 31, 32, 33, 34, 35, 36, 37, 38, 39, 40, 41, 42, 43, 44, 45, 46, 47, 48, 49, 50, 51, 52, 53, 54, 55, 56, 57, 58, 59, 60, 61, 62, 63, 64, 65, 66, 67, 68, 69, 70, 71, 72, 73, 74, 75, 76, 77, 78, 79, 80, 81, 82, 83, 84, 85, 86, 87, 88, 89, 90, 91, 92, 93, 94, 95, 96, 97, 98, 99, 100, 101, 102, 103, 104, 105, 106, 107, 108, 109, 110, 111, 112, 113, 114, 115, 116, 117, 118, 119, 120, 121, 122, 123, 124, 125, 126, 127, 128, 129, 130, 131, 132, 133, 134, 135, 136, 137, 138, 139, 140, 141, 142, 143, 144, 145, 146, 147, 148, 149, 150, 151, 152, 153, 154, 155, 156, 157, 158, 159, 160, 285, 286, 287, 288, 289, 290, 291, 292, 293, 294, 295, 296, 297, 298, 299, 300, 301, 302, 303, 304, 305, 306, 307, 308, 309, 310, 311, 312] (by decide +kernel) (by decide +kernel)) (goodIn_sub (fun _ h => List.mem_cons_of_mem _ (List.mem_append_left _ (List.mem_append_left _ (List.mem_append_right _ h)))) (by decide +kernel))) (goodIn_sub (fun _ h => List.mem_cons_of_mem _ (List.mem_append_left _ (List.mem_append_right _ h))) (by decide +kernel))) (goodIn_sub (fun _ h => List.mem_cons_of_mem _ (List.mem_append_right _ h)) (by decide +kernel))
set_option maxRecDepth 20000 in
theorem gL_isSo_L_leastOf : GoodIn wsL_isSo (va_wsS RL 127 yL_leastOf wsL_leastOf) := goodIn_app (goodIn_of _ (by decide +kernel)) ggL_isSo_L_leastOf
set_option maxRecDepth 20000 in
theorem ggL_isSo_L_winsOf : GoodIn wsL_isSo wsL_winsOf := goodIn_ca (goodIn_ca (goodIn_ca (goodIn_r _ [163, 27, 1, 164, 165, 166, 31, 167, 48, 168, 169, 170, 65, 171, 172, 107, 108, 109, 67, 173, 174, 33, 34, 35, 36, 37, 38, 39, 40, 41, 42, 43, 44, 45, 46, 47, 49, 50, 51, 52, 53, 54, 55, 56, 57, 58, 59, 60, 61, 62, 63, 64, 66, 68, 69, 70, 71, 72, 73, 74, 75, 76, 77, 78, 79, 80, 81, 82, 83, 84, 85, 86, 87, 88, 89, 90, 91, 92, 93, 94, 95, 96, 97, 98, 99, 100, 101, 102, 103, 104, 105, 106, 110, 111, 112, 113, 114, 115, 116, 117, 118, 119, 120, 121, 122, 123, 124, 125, 126, 127, 128, 129, 130, 131, 132, 133, 134, 135, 136, 137, 138, 139, 140, 141, 142, 143, 144, 145, 146, 147, 148, 149, 150, 151, 152, 153, 154, 155, 156, 157, 158, 159, 175, 298, 299, 300, 301, 302, 303, 304, 305, 306, 307, 308, 309, 310, 311, 285, 286, 287, 288, 289, 290, 291, 292, 293, 294, 295, 296, 297, 312] (by decide +kernel) (by decide +kernel)) (goodIn_sub (fun _ h => List.mem_cons_of_mem _ (List.mem_append_left _ (List.mem_append_left _ (List.mem_append_right _ h)))) (by decide +kernel))) (goodIn_sub (fun _ h => List.mem_cons_of_mem _ (List.mem_append_left _ (List.mem_append_right _ h))) (by decide +kernel))) (goodIn_sub (fun _ h => List.mem_cons_of_mem _ (List.mem_append_right _ h)) (by decide +kernel))
set_option maxRecDepth 20000 in
theorem gL_isSo_L_winsOf : GoodIn wsL_isSo (va_wsS RL 130 yL_winsOf wsL_winsOf) := goodIn_app (goodIn_of _ (by decide +kernel)) ggL_isSo_L_winsOf
set_option maxRecDepth 20000 in
theorem ggL_isSo_L_why : GoodIn wsL_isSo wsL_why := goodIn_r _ [14] (by decide +kernel) (by decide +kernel)
set_option maxRecDepth 20000 in
theorem gL_isSo_L_why : GoodIn wsL_isSo (va_wsS RL 49 yL_why wsL_why) := goodIn_app (goodIn_of _ (by decide +kernel)) ggL_isSo_L_why
set_option maxRecDepth 20000 in
theorem ggL_isSo_L_swings : GoodIn wsL_isSo wsL_swings := goodIn_r _ [20, 21, 22, 6, 23] (by decide +kernel) (by decide +kernel)
set_option maxRecDepth 20000 in
theorem gL_isSo_L_swings : GoodIn wsL_isSo (va_wsS RL 57 yL_swings wsL_swings) := goodIn_app (goodIn_of _ (by decide +kernel)) ggL_isSo_L_swings
set_option maxRecDepth 20000 in
theorem ggL_isSo_L_orders : GoodIn wsL_isSo wsL_orders := goodIn_r _ [178, 21, 22, 6, 23, 179, 180, 181, 182, 183, 184] (by decide +kernel) (by decide +kernel)
set_option maxRecDepth 20000 in
theorem gL_isSo_L_orders : GoodIn wsL_isSo (va_wsS RL 133 yL_orders wsL_orders) := goodIn_app (goodIn_of _ (by decide +kernel)) ggL_isSo_L_orders
set_option maxRecDepth 20000 in
theorem ggL_isSo_L_memberOf : GoodIn wsL_isSo wsL_memberOf := goodIn_ca (goodIn_ca (goodIn_ca (goodIn_r _ [187, 188, 27, 189, 1, 190, 191, 192, 31, 193, 48, 194, 195, 196, 65, 197, 73, 74, 75, 76, 67, 33, 34, 35, 36, 37, 38, 39, 40, 41, 198, 173, 174, 42, 43, 44, 45, 46, 47, 49, 50, 51, 52, 53, 54, 55, 56, 57, 58, 59, 60, 61, 62, 63, 64, 66, 68, 69, 70, 71, 72, 77, 78, 79, 80, 81, 82, 83, 84, 85, 86, 87, 88, 89, 90, 91, 92, 93, 94, 95, 96, 97, 98, 99, 100, 101, 102, 103, 104, 105, 106, 107, 108, 109, 110, 111, 112, 113, 114, 115, 116, 117, 118, 119, 120, 121, 122, 123, 124, 125, 126, 127, 128, 129, 130, 131, 132, 133, 134, 135, 136, 137, 138, 139, 140, 141, 142, 143, 144, 145, 146, 147, 148, 149, 150, 151, 152, 153, 154, 155, 156, 157, 158, 159, 199, 200, 201, 202, 203, 204, 205, 206, 207, 208, 209, 210, 211, 212, 213, 214, 215, 216, 217, 218, 219, 220, 298, 299, 300, 301, 302, 303, 304, 305, 306, 307, 308, 309, 310, 311, 285, 286, 287, 288, 289, 290, 291, 292, 293, 294, 295, 296, 297, 312] (by decide +kernel) (by decide +kernel)) (goodIn_sub (fun _ h => List.mem_cons_of_mem _ (List.mem_append_left _ (List.mem_append_left _ (List.mem_append_right _ h)))) (by decide +kernel))) (goodIn_sub (fun _ h => List.mem_cons_of_mem _ (List.mem_append_left _ (List.mem_append_right _ h))) (by decide +kernel))) (goodIn_sub (fun _ h => List.mem_cons_of_mem _ (List.mem_append_right _ h)) (by decide +kernel))
set_option maxRecDepth 20000 in
theorem gL_isSo_L_memberOf : GoodIn wsL_isSo (va_wsS RL 137 yL_memberOf wsL_memberOf) := goodIn_app (goodIn_of _ (by decide +kernel)) ggL_isSo_L_memberOf
set_option maxRecDepth 20000 in
theorem ggL_isSo_L_shareOf : GoodIn wsL_isSo wsL_shareOf := goodIn_ca (goodIn_ca (goodIn_ca (goodIn_r _ [223, 188, 224, 225, 226, 227, 31, 228, 48, 194, 195, 196, 65, 197, 73, 74, 75, 76, 67, 33, 34, 35, 36, 37, 38, 39, 40, 41, 42, 43, 44, 45, 46, 47, 49, 50, 51, 52, 53, 54, 55, 56, 57, 58, 59, 60, 61, 62, 63, 64, 66, 68, 69, 70, 71, 72, 77, 78, 79, 80, 81, 82, 83, 84, 85, 86, 87, 88, 89, 90, 91, 92, 93, 94, 95, 96, 97, 98, 99, 100, 101, 102, 103, 104, 105, 106, 107, 108, 109, 110, 111, 112, 113, 114, 115, 116, 117, 118, 119, 120, 121, 122, 123, 124, 125, 126, 127, 128, 129, 130, 131, 132, 133, 134, 135, 136, 137, 138, 139, 140, 141, 142, 143, 144, 145, 146, 147, 148, 149, 150, 151, 152, 153, 154, 155, 156, 157, 158, 159, 229, 230, 231, 232, 298, 299, 300, 301, 302, 303, 304, 305, 306, 307, 308, 309, 310, 311, 285, 286, 287, 288, 289, 290, 291, 292, 293, 294, 295, 296, 297, 312] (by decide +kernel) (by decide +kernel)) (goodIn_sub (fun _ h => List.mem_cons_of_mem _ (List.mem_append_left _ (List.mem_append_left _ (List.mem_append_right _ h)))) (by decide +kernel))) (goodIn_sub (fun _ h => List.mem_cons_of_mem _ (List.mem_append_left _ (List.mem_append_right _ h))) (by decide +kernel))) (goodIn_sub (fun _ h => List.mem_cons_of_mem _ (List.mem_append_right _ h)) (by decide +kernel))
set_option maxRecDepth 20000 in
theorem gL_isSo_L_shareOf : GoodIn wsL_isSo (va_wsS RL 140 yL_shareOf wsL_shareOf) := goodIn_app (goodIn_of _ (by decide +kernel)) ggL_isSo_L_shareOf
set_option maxRecDepth 20000 in
theorem ggL_isSo_L_ones : GoodIn wsL_isSo wsL_ones := goodIn_r _ [181] (by decide +kernel) (by decide +kernel)
set_option maxRecDepth 20000 in
theorem gL_isSo_L_ones : GoodIn wsL_isSo (va_wsS RL 61 yL_ones wsL_ones) := goodIn_app (goodIn_of _ (by decide +kernel)) ggL_isSo_L_ones
set_option maxRecDepth 20000 in
theorem ggL_isSo_L_ways : GoodIn wsL_isSo wsL_ways := goodIn_r _ [184] (by decide +kernel) (by decide +kernel)
set_option maxRecDepth 20000 in
theorem gL_isSo_L_ways : GoodIn wsL_isSo (va_wsS RL 64 yL_ways wsL_ways) := goodIn_app (goodIn_of _ (by decide +kernel)) ggL_isSo_L_ways
set_option maxRecDepth 20000 in
theorem ggL_isSo_L_partOf : GoodIn wsL_isSo wsL_partOf := goodIn_ca (goodIn_ca (goodIn_ca (goodIn_r _ [235, 188, 224, 236, 237, 238, 31, 239, 48, 194, 195, 196, 65, 197, 73, 74, 75, 76, 67, 33, 34, 35, 36, 37, 38, 39, 40, 41, 42, 43, 44, 45, 46, 47, 49, 50, 51, 52, 53, 54, 55, 56, 57, 58, 59, 60, 61, 62, 63, 64, 66, 68, 69, 70, 71, 72, 77, 78, 79, 80, 81, 82, 83, 84, 85, 86, 87, 88, 89, 90, 91, 92, 93, 94, 95, 96, 97, 98, 99, 100, 101, 102, 103, 104, 105, 106, 107, 108, 109, 110, 111, 112, 113, 114, 115, 116, 117, 118, 119, 120, 121, 122, 123, 124, 125, 126, 127, 128, 129, 130, 131, 132, 133, 134, 135, 136, 137, 138, 139, 140, 141, 142, 143, 144, 145, 146, 147, 148, 149, 150, 151, 152, 153, 154, 155, 156, 157, 158, 159, 240, 241, 242, 243, 298, 299, 300, 301, 302, 303, 304, 305, 306, 307, 308, 309, 310, 311, 285, 286, 287, 288, 289, 290, 291, 292, 293, 294, 295, 296, 297, 312] (by decide +kernel) (by decide +kernel)) (goodIn_sub (fun _ h => List.mem_cons_of_mem _ (List.mem_append_left _ (List.mem_append_left _ (List.mem_append_right _ h)))) (by decide +kernel))) (goodIn_sub (fun _ h => List.mem_cons_of_mem _ (List.mem_append_left _ (List.mem_append_right _ h))) (by decide +kernel))) (goodIn_sub (fun _ h => List.mem_cons_of_mem _ (List.mem_append_right _ h)) (by decide +kernel))
set_option maxRecDepth 20000 in
theorem gL_isSo_L_partOf : GoodIn wsL_isSo (va_wsS RL 148 yL_partOf wsL_partOf) := goodIn_app (goodIn_of _ (by decide +kernel)) ggL_isSo_L_partOf
set_option maxRecDepth 20000 in
theorem ggL_isSo_L_ruleOf : GoodIn wsL_isSo wsL_ruleOf := goodIn_ca (goodIn_ca (goodIn_ca (goodIn_r _ [246, 188, 27, 189, 1, 247, 248, 249, 31, 250, 48, 251, 252, 253, 65, 254, 114, 33, 34, 35, 36, 37, 38, 39, 40, 41, 198, 173, 174, 255, 256, 257, 258, 120, 119, 77, 78, 79, 80, 81, 82, 172, 107, 108, 109, 67, 115, 116, 117, 118, 121, 122, 123, 124, 125, 126, 127, 128, 129, 298, 299, 300, 301, 302, 303, 304, 305, 306, 307, 308, 309, 310, 311, 312] (by decide +kernel) (by decide +kernel)) (goodIn_sub (fun _ h => List.mem_cons_of_mem _ (List.mem_append_left _ (List.mem_append_left _ (List.mem_append_right _ h)))) (by decide +kernel))) (goodIn_sub (fun _ h => List.mem_cons_of_mem _ (List.mem_append_left _ (List.mem_append_right _ h))) (by decide +kernel))) (goodIn_sub (fun _ h => List.mem_cons_of_mem _ (List.mem_append_right _ h)) (by decide +kernel))
set_option maxRecDepth 20000 in
theorem gL_isSo_L_ruleOf : GoodIn wsL_isSo (va_wsS RL 151 yL_ruleOf wsL_ruleOf) := goodIn_app (goodIn_of _ (by decide +kernel)) ggL_isSo_L_ruleOf
set_option maxRecDepth 20000 in
theorem ggL_isSo_L_wholeOf : GoodIn wsL_isSo wsL_wholeOf := goodIn_ca (goodIn_ca (goodIn_ca (goodIn_r _ [261, 27, 1, 262, 263, 264, 31, 265, 198, 173, 174, 33, 34, 35, 36, 37, 38, 39, 40, 41, 42, 43, 44, 45, 46, 47, 48, 49, 50, 51, 52, 53, 54, 55, 56, 57, 58, 59, 60, 61, 62, 63, 64, 65, 66, 67, 68, 69, 70, 71, 72, 73, 74, 75, 76, 77, 78, 79, 80, 81, 82, 83, 84, 85, 86, 87, 88, 89, 90, 91, 92, 93, 94, 95, 96, 97, 98, 99, 100, 101, 102, 103, 104, 105, 106, 107, 108, 109, 110, 111, 112, 113, 114, 115, 116, 117, 118, 119, 120, 121, 122, 123, 124, 125, 126, 127, 128, 129, 130, 131, 132, 133, 134, 135, 136, 137, 138, 139, 140, 141, 142, 143, 144, 145, 146, 147, 148, 149, 150, 151, 152, 153, 154, 155, 156, 157, 158, 159, 266, 267, 268, 269, 270, 271, 272, 273, 274, 275, 276, 172, 208, 277, 278, 279, 280, 281, 282, 283, 284, 213, 214, 215, 216, 217, 218, 219, 220, 298, 299, 300, 301, 302, 303, 304, 285, 286, 287, 288, 289, 290, 291, 292, 293, 294, 295, 296, 297, 305, 306, 307, 308, 309, 310, 311, 312, 313, 314, 315, 316, 317, 318] (by decide +kernel) (by decide +kernel)) (goodIn_sub (fun _ h => List.mem_cons_of_mem _ (List.mem_append_left _ (List.mem_append_left _ (List.mem_append_right _ h)))) (by decide +kernel))) (goodIn_sub (fun _ h => List.mem_cons_of_mem _ (List.mem_append_left _ (List.mem_append_right _ h))) (by decide +kernel))) (goodIn_sub (fun _ h => List.mem_cons_of_mem _ (List.mem_append_right _ h)) (by decide +kernel))
set_option maxRecDepth 20000 in
theorem gL_isSo_L_wholeOf : GoodIn wsL_isSo (va_wsS RL 154 yL_wholeOf wsL_wholeOf) := goodIn_app (goodIn_of _ (by decide +kernel)) ggL_isSo_L_wholeOf
theorem dL_isSo_0 : decode cL_isSo 0 = .ok (.aload_n 1, 1) := by decide +kernel
theorem dL_isSo_1 : decode cL_isSo 1 = .ok (.aload_n 2, 1) := by decide +kernel
theorem dL_isSo_2 : decode cL_isSo 2 = .ok (.aload_n 3, 1) := by decide +kernel
theorem dL_isSo_3 : decode cL_isSo 3 = .ok (.aload 4, 2) := by decide +kernel
theorem dL_isSo_5 : decode cL_isSo 5 = .ok (.aload_n 1, 1) := by decide +kernel
theorem dL_isSo_6 : decode cL_isSo 6 = .ok (.iconst 1, 1) := by decide +kernel
theorem dL_isSo_7 : decode cL_isSo 7 = .ok (.iaload, 1) := by decide +kernel
theorem dL_isSo_8 : decode cL_isSo 8 = .ok (.invokestatic 119, 3) := by decide +kernel
theorem dL_isSo_11 : decode cL_isSo 11 = .ok (.astore 5, 2) := by decide +kernel
theorem dL_isSo_13 : decode cL_isSo 13 = .ok (.aload_n 1, 1) := by decide +kernel
theorem dL_isSo_14 : decode cL_isSo 14 = .ok (.aload_n 3, 1) := by decide +kernel
theorem dL_isSo_15 : decode cL_isSo 15 = .ok (.invokestatic 43, 3) := by decide +kernel
theorem dL_isSo_18 : decode cL_isSo 18 = .ok (.istore 6, 2) := by decide +kernel
theorem dL_isSo_20 : decode cL_isSo 20 = .ok (.aload 5, 2) := by decide +kernel
theorem dL_isSo_22 : decode cL_isSo 22 = .ok (.invokestatic 123, 3) := by decide +kernel
theorem dL_isSo_25 : decode cL_isSo 25 = .ok (.istore 7, 2) := by decide +kernel
theorem dL_isSo_27 : decode cL_isSo 27 = .ok (.iconst 0, 1) := by decide +kernel
theorem dL_isSo_28 : decode cL_isSo 28 = .ok (.istore 8, 2) := by decide +kernel
theorem dL_isSo_30 : decode cL_isSo 30 = .ok (.iconst 0, 1) := by decide +kernel
theorem dL_isSo_31 : decode cL_isSo 31 = .ok (.istore 9, 2) := by decide +kernel
theorem dL_isSo_33 : decode cL_isSo 33 = .ok (.iconst 0, 1) := by decide +kernel
theorem dL_isSo_34 : decode cL_isSo 34 = .ok (.istore 10, 2) := by decide +kernel
theorem dL_isSo_36 : decode cL_isSo 36 = .ok (.iconst 0, 1) := by decide +kernel
theorem dL_isSo_37 : decode cL_isSo 37 = .ok (.istore 11, 2) := by decide +kernel
theorem dL_isSo_39 : decode cL_isSo 39 = .ok (.iconst 0, 1) := by decide +kernel
theorem dL_isSo_40 : decode cL_isSo 40 = .ok (.istore 12, 2) := by decide +kernel
theorem dL_isSo_42 : decode cL_isSo 42 = .ok (.iconst 0, 1) := by decide +kernel
theorem dL_isSo_43 : decode cL_isSo 43 = .ok (.istore 13, 2) := by decide +kernel
theorem dL_isSo_45 : decode cL_isSo 45 = .ok (.iconst 1, 1) := by decide +kernel
theorem dL_isSo_46 : decode cL_isSo 46 = .ok (.istore 14, 2) := by decide +kernel
theorem dL_isSo_48 : decode cL_isSo 48 = .ok (.iconst 0, 1) := by decide +kernel
theorem dL_isSo_49 : decode cL_isSo 49 = .ok (.istore 15, 2) := by decide +kernel
theorem dL_isSo_51 : decode cL_isSo 51 = .ok (.iload 15, 2) := by decide +kernel
theorem dL_isSo_53 : decode cL_isSo 53 = .ok (.sipush 256, 3) := by decide +kernel
theorem dL_isSo_56 : decode cL_isSo 56 = .ok (.if_icmp .ge 190, 3) := by decide +kernel
theorem dL_isSo_59 : decode cL_isSo 59 = .ok (.iload 14, 2) := by decide +kernel
theorem dL_isSo_61 : decode cL_isSo 61 = .ok (.ifCond .eq 185, 3) := by decide +kernel
theorem dL_isSo_64 : decode cL_isSo 64 = .ok (.aload 5, 2) := by decide +kernel
theorem dL_isSo_66 : decode cL_isSo 66 = .ok (.iload 15, 2) := by decide +kernel
theorem dL_isSo_68 : decode cL_isSo 68 = .ok (.invokestatic 53, 3) := by decide +kernel
theorem dL_isSo_71 : decode cL_isSo 71 = .ok (.istore 16, 2) := by decide +kernel
theorem dL_isSo_73 : decode cL_isSo 73 = .ok (.iload 16, 2) := by decide +kernel
theorem dL_isSo_75 : decode cL_isSo 75 = .ok (.istore 17, 2) := by decide +kernel
theorem dL_isSo_77 : decode cL_isSo 77 = .ok (.iconst 0, 1) := by decide +kernel
theorem dL_isSo_78 : decode cL_isSo 78 = .ok (.istore 18, 2) := by decide +kernel
theorem dL_isSo_80 : decode cL_isSo 80 = .ok (.iload 18, 2) := by decide +kernel
theorem dL_isSo_82 : decode cL_isSo 82 = .ok (.bipush 8, 2) := by decide +kernel
theorem dL_isSo_84 : decode cL_isSo 84 = .ok (.if_icmp .ge 46, 3) := by decide +kernel
theorem dL_isSo_87 : decode cL_isSo 87 = .ok (.iload 17, 2) := by decide +kernel
theorem dL_isSo_89 : decode cL_isSo 89 = .ok (.ifCond .eq 32, 3) := by decide +kernel
theorem dL_isSo_92 : decode cL_isSo 92 = .ok (.iload 15, 2) := by decide +kernel
theorem dL_isSo_94 : decode cL_isSo 94 = .ok (.iload 18, 2) := by decide +kernel
theorem dL_isSo_96 : decode cL_isSo 96 = .ok (.ishr, 1) := by decide +kernel
theorem dL_isSo_97 : decode cL_isSo 97 = .ok (.iconst 1, 1) := by decide +kernel
theorem dL_isSo_98 : decode cL_isSo 98 = .ok (.iand, 1) := by decide +kernel
theorem dL_isSo_99 : decode cL_isSo 99 = .ok (.ifCond .eq 18, 3) := by decide +kernel
theorem dL_isSo_102 : decode cL_isSo 102 = .ok (.aload 5, 2) := by decide +kernel
theorem dL_isSo_104 : decode cL_isSo 104 = .ok (.iload 15, 2) := by decide +kernel
theorem dL_isSo_106 : decode cL_isSo 106 = .ok (.iconst 1, 1) := by decide +kernel
theorem dL_isSo_107 : decode cL_isSo 107 = .ok (.iload 18, 2) := by decide +kernel
theorem dL_isSo_109 : decode cL_isSo 109 = .ok (.ishl, 1) := by decide +kernel
theorem dL_isSo_110 : decode cL_isSo 110 = .ok (.isub, 1) := by decide +kernel
theorem dL_isSo_111 : decode cL_isSo 111 = .ok (.invokestatic 53, 3) := by decide +kernel
theorem dL_isSo_114 : decode cL_isSo 114 = .ok (.ifCond .ne 7, 3) := by decide +kernel
theorem dL_isSo_117 : decode cL_isSo 117 = .ok (.iconst 1, 1) := by decide +kernel
theorem dL_isSo_118 : decode cL_isSo 118 = .ok (.goto 4, 3) := by decide +kernel
theorem dL_isSo_121 : decode cL_isSo 121 = .ok (.iconst 0, 1) := by decide +kernel
theorem dL_isSo_122 : decode cL_isSo 122 = .ok (.istore 17, 2) := by decide +kernel
theorem dL_isSo_124 : decode cL_isSo 124 = .ok (.iinc 18 1, 3) := by decide +kernel
theorem dL_isSo_127 : decode cL_isSo 127 = .ok (.goto (-47), 3) := by decide +kernel
theorem dL_isSo_130 : decode cL_isSo 130 = .ok (.iload 12, 2) := by decide +kernel
theorem dL_isSo_132 : decode cL_isSo 132 = .ok (.iload 16, 2) := by decide +kernel
theorem dL_isSo_134 : decode cL_isSo 134 = .ok (.ifCond .eq 7, 3) := by decide +kernel
theorem dL_isSo_137 : decode cL_isSo 137 = .ok (.iconst 1, 1) := by decide +kernel
theorem dL_isSo_138 : decode cL_isSo 138 = .ok (.goto 4, 3) := by decide +kernel
theorem dL_isSo_141 : decode cL_isSo 141 = .ok (.iconst 0, 1) := by decide +kernel
theorem dL_isSo_142 : decode cL_isSo 142 = .ok (.iadd, 1) := by decide +kernel
theorem dL_isSo_143 : decode cL_isSo 143 = .ok (.istore 12, 2) := by decide +kernel
theorem dL_isSo_145 : decode cL_isSo 145 = .ok (.iload 17, 2) := by decide +kernel
theorem dL_isSo_147 : decode cL_isSo 147 = .ok (.ifCond .eq 14, 3) := by decide +kernel
theorem dL_isSo_150 : decode cL_isSo 150 = .ok (.aload_n 0, 1) := by decide +kernel
theorem dL_isSo_151 : decode cL_isSo 151 = .ok (.iload 13, 2) := by decide +kernel
theorem dL_isSo_153 : decode cL_isSo 153 = .ok (.invokestatic 127, 3) := by decide +kernel
theorem dL_isSo_156 : decode cL_isSo 156 = .ok (.iload 15, 2) := by decide +kernel
theorem dL_isSo_158 : decode cL_isSo 158 = .ok (.if_icmp .ne 7, 3) := by decide +kernel
theorem dL_isSo_161 : decode cL_isSo 161 = .ok (.iconst 1, 1) := by decide +kernel
theorem dL_isSo_162 : decode cL_isSo 162 = .ok (.goto 4, 3) := by decide +kernel
theorem dL_isSo_165 : decode cL_isSo 165 = .ok (.iconst 0, 1) := by decide +kernel
theorem dL_isSo_166 : decode cL_isSo 166 = .ok (.istore 14, 2) := by decide +kernel
theorem dL_isSo_168 : decode cL_isSo 168 = .ok (.iload 13, 2) := by decide +kernel
theorem dL_isSo_170 : decode cL_isSo 170 = .ok (.iload 17, 2) := by decide +kernel
theorem dL_isSo_172 : decode cL_isSo 172 = .ok (.ifCond .eq 7, 3) := by decide +kernel
theorem dL_isSo_175 : decode cL_isSo 175 = .ok (.iconst 1, 1) := by decide +kernel
theorem dL_isSo_176 : decode cL_isSo 176 = .ok (.goto 4, 3) := by decide +kernel
theorem dL_isSo_179 : decode cL_isSo 179 = .ok (.iconst 0, 1) := by decide +kernel
theorem dL_isSo_180 : decode cL_isSo 180 = .ok (.iadd, 1) := by decide +kernel
theorem dL_isSo_181 : decode cL_isSo 181 = .ok (.istore 13, 2) := by decide +kernel
theorem dL_isSo_183 : decode cL_isSo 183 = .ok (.iload 14, 2) := by decide +kernel
theorem dL_isSo_185 : decode cL_isSo 185 = .ok (.ifCond .eq 52, 3) := by decide +kernel
theorem dL_isSo_188 : decode cL_isSo 188 = .ok (.aload_n 0, 1) := by decide +kernel
theorem dL_isSo_189 : decode cL_isSo 189 = .ok (.iload 15, 2) := by decide +kernel
theorem dL_isSo_191 : decode cL_isSo 191 = .ok (.invokestatic 130, 3) := by decide +kernel
theorem dL_isSo_194 : decode cL_isSo 194 = .ok (.iload 15, 2) := by decide +kernel
theorem dL_isSo_196 : decode cL_isSo 196 = .ok (.iconst 1, 1) := by decide +kernel
theorem dL_isSo_197 : decode cL_isSo 197 = .ok (.aload_n 1, 1) := by decide +kernel
theorem dL_isSo_198 : decode cL_isSo 198 = .ok (.iconst 0, 1) := by decide +kernel
theorem dL_isSo_199 : decode cL_isSo 199 = .ok (.iaload, 1) := by decide +kernel
theorem dL_isSo_200 : decode cL_isSo 200 = .ok (.ishl, 1) := by decide +kernel
theorem dL_isSo_201 : decode cL_isSo 201 = .ok (.if_icmp .lt 8, 3) := by decide +kernel
theorem dL_isSo_204 : decode cL_isSo 204 = .ok (.ldc 17, 2) := by decide +kernel
theorem dL_isSo_206 : decode cL_isSo 206 = .ok (.goto 24, 3) := by decide +kernel
theorem dL_isSo_209 : decode cL_isSo 209 = .ok (.aload_n 1, 1) := by decide +kernel
theorem dL_isSo_210 : decode cL_isSo 210 = .ok (.aload_n 2, 1) := by decide +kernel
theorem dL_isSo_211 : decode cL_isSo 211 = .ok (.aload_n 3, 1) := by decide +kernel
theorem dL_isSo_212 : decode cL_isSo 212 = .ok (.aload 4, 2) := by decide +kernel
theorem dL_isSo_214 : decode cL_isSo 214 = .ok (.iload 15, 2) := by decide +kernel
theorem dL_isSo_216 : decode cL_isSo 216 = .ok (.aload_n 1, 1) := by decide +kernel
theorem dL_isSo_217 : decode cL_isSo 217 = .ok (.iconst 1, 1) := by decide +kernel
theorem dL_isSo_218 : decode cL_isSo 218 = .ok (.iaload, 1) := by decide +kernel
theorem dL_isSo_219 : decode cL_isSo 219 = .ok (.invokestatic 49, 3) := by decide +kernel
theorem dL_isSo_222 : decode cL_isSo 222 = .ok (.ifCond .ne 7, 3) := by decide +kernel
theorem dL_isSo_225 : decode cL_isSo 225 = .ok (.iconst 1, 1) := by decide +kernel
theorem dL_isSo_226 : decode cL_isSo 226 = .ok (.goto 4, 3) := by decide +kernel
theorem dL_isSo_229 : decode cL_isSo 229 = .ok (.iconst 0, 1) := by decide +kernel
theorem dL_isSo_230 : decode cL_isSo 230 = .ok (.if_icmp .ne 7, 3) := by decide +kernel
theorem dL_isSo_233 : decode cL_isSo 233 = .ok (.iconst 1, 1) := by decide +kernel
theorem dL_isSo_234 : decode cL_isSo 234 = .ok (.goto 4, 3) := by decide +kernel
theorem dL_isSo_237 : decode cL_isSo 237 = .ok (.iconst 0, 1) := by decide +kernel
theorem dL_isSo_238 : decode cL_isSo 238 = .ok (.istore 14, 2) := by decide +kernel
theorem dL_isSo_240 : decode cL_isSo 240 = .ok (.iinc 15 1, 3) := by decide +kernel
theorem dL_isSo_243 : decode cL_isSo 243 = .ok (.goto (-192), 3) := by decide +kernel
theorem dL_isSo_246 : decode cL_isSo 246 = .ok (.iconst 0, 1) := by decide +kernel
theorem dL_isSo_247 : decode cL_isSo 247 = .ok (.istore 15, 2) := by decide +kernel
theorem dL_isSo_249 : decode cL_isSo 249 = .ok (.iload 15, 2) := by decide +kernel
theorem dL_isSo_251 : decode cL_isSo 251 = .ok (.aload_n 1, 1) := by decide +kernel
theorem dL_isSo_252 : decode cL_isSo 252 = .ok (.iconst 0, 1) := by decide +kernel
theorem dL_isSo_253 : decode cL_isSo 253 = .ok (.iaload, 1) := by decide +kernel
theorem dL_isSo_254 : decode cL_isSo 254 = .ok (.if_icmp .ge 480, 3) := by decide +kernel
theorem dL_isSo_257 : decode cL_isSo 257 = .ok (.iload 14, 2) := by decide +kernel
theorem dL_isSo_259 : decode cL_isSo 259 = .ok (.ifCond .eq 475, 3) := by decide +kernel
theorem dL_isSo_262 : decode cL_isSo 262 = .ok (.aload_n 3, 1) := by decide +kernel
theorem dL_isSo_263 : decode cL_isSo 263 = .ok (.iload 15, 2) := by decide +kernel
theorem dL_isSo_265 : decode cL_isSo 265 = .ok (.iaload, 1) := by decide +kernel
theorem dL_isSo_266 : decode cL_isSo 266 = .ok (.ifCond .ge 10, 3) := by decide +kernel
theorem dL_isSo_269 : decode cL_isSo 269 = .ok (.aload_n 2, 1) := by decide +kernel
theorem dL_isSo_270 : decode cL_isSo 270 = .ok (.iload 15, 2) := by decide +kernel
theorem dL_isSo_272 : decode cL_isSo 272 = .ok (.iaload, 1) := by decide +kernel
theorem dL_isSo_273 : decode cL_isSo 273 = .ok (.goto 4, 3) := by decide +kernel
theorem dL_isSo_276 : decode cL_isSo 276 = .ok (.iconst 0, 1) := by decide +kernel
theorem dL_isSo_277 : decode cL_isSo 277 = .ok (.istore 16, 2) := by decide +kernel
theorem dL_isSo_279 : decode cL_isSo 279 = .ok (.iconst 0, 1) := by decide +kernel
theorem dL_isSo_280 : decode cL_isSo 280 = .ok (.istore 17, 2) := by decide +kernel
theorem dL_isSo_282 : decode cL_isSo 282 = .ok (.aload_n 3, 1) := by decide +kernel
theorem dL_isSo_283 : decode cL_isSo 283 = .ok (.iload 15, 2) := by decide +kernel
theorem dL_isSo_285 : decode cL_isSo 285 = .ok (.iaload, 1) := by decide +kernel
theorem dL_isSo_286 : decode cL_isSo 286 = .ok (.ifCond .ge 12, 3) := by decide +kernel
theorem dL_isSo_289 : decode cL_isSo 289 = .ok (.iload 12, 2) := by decide +kernel
theorem dL_isSo_291 : decode cL_isSo 291 = .ok (.ifCond .le 7, 3) := by decide +kernel
theorem dL_isSo_294 : decode cL_isSo 294 = .ok (.iconst 1, 1) := by decide +kernel
theorem dL_isSo_295 : decode cL_isSo 295 = .ok (.goto 4, 3) := by decide +kernel
theorem dL_isSo_298 : decode cL_isSo 298 = .ok (.iconst 0, 1) := by decide +kernel
theorem dL_isSo_299 : decode cL_isSo 299 = .ok (.istore 18, 2) := by decide +kernel
theorem dL_isSo_301 : decode cL_isSo 301 = .ok (.iconst 0, 1) := by decide +kernel
theorem dL_isSo_302 : decode cL_isSo 302 = .ok (.istore 19, 2) := by decide +kernel
theorem dL_isSo_304 : decode cL_isSo 304 = .ok (.iload 19, 2) := by decide +kernel
theorem dL_isSo_306 : decode cL_isSo 306 = .ok (.aload_n 1, 1) := by decide +kernel
theorem dL_isSo_307 : decode cL_isSo 307 = .ok (.iconst 0, 1) := by decide +kernel
theorem dL_isSo_308 : decode cL_isSo 308 = .ok (.iaload, 1) := by decide +kernel
theorem dL_isSo_309 : decode cL_isSo 309 = .ok (.if_icmp .ge 50, 3) := by decide +kernel
theorem dL_isSo_312 : decode cL_isSo 312 = .ok (.iload 16, 2) := by decide +kernel
theorem dL_isSo_314 : decode cL_isSo 314 = .ok (.aload_n 3, 1) := by decide +kernel
theorem dL_isSo_315 : decode cL_isSo 315 = .ok (.iload 19, 2) := by decide +kernel
theorem dL_isSo_317 : decode cL_isSo 317 = .ok (.iaload, 1) := by decide +kernel
theorem dL_isSo_318 : decode cL_isSo 318 = .ok (.iload 15, 2) := by decide +kernel
theorem dL_isSo_320 : decode cL_isSo 320 = .ok (.if_icmp .ne 10, 3) := by decide +kernel
theorem dL_isSo_323 : decode cL_isSo 323 = .ok (.aload_n 2, 1) := by decide +kernel
theorem dL_isSo_324 : decode cL_isSo 324 = .ok (.iload 19, 2) := by decide +kernel
theorem dL_isSo_326 : decode cL_isSo 326 = .ok (.iaload, 1) := by decide +kernel
theorem dL_isSo_327 : decode cL_isSo 327 = .ok (.goto 4, 3) := by decide +kernel
theorem dL_isSo_330 : decode cL_isSo 330 = .ok (.iconst 0, 1) := by decide +kernel
theorem dL_isSo_331 : decode cL_isSo 331 = .ok (.iadd, 1) := by decide +kernel
theorem dL_isSo_332 : decode cL_isSo 332 = .ok (.istore 16, 2) := by decide +kernel
theorem dL_isSo_334 : decode cL_isSo 334 = .ok (.iload 17, 2) := by decide +kernel
theorem dL_isSo_336 : decode cL_isSo 336 = .ok (.aload_n 3, 1) := by decide +kernel
theorem dL_isSo_337 : decode cL_isSo 337 = .ok (.iload 19, 2) := by decide +kernel
theorem dL_isSo_339 : decode cL_isSo 339 = .ok (.iaload, 1) := by decide +kernel
theorem dL_isSo_340 : decode cL_isSo 340 = .ok (.iload 15, 2) := by decide +kernel
theorem dL_isSo_342 : decode cL_isSo 342 = .ok (.if_icmp .ne 7, 3) := by decide +kernel
theorem dL_isSo_345 : decode cL_isSo 345 = .ok (.iconst 1, 1) := by decide +kernel
theorem dL_isSo_346 : decode cL_isSo 346 = .ok (.goto 4, 3) := by decide +kernel
theorem dL_isSo_349 : decode cL_isSo 349 = .ok (.iconst 0, 1) := by decide +kernel
theorem dL_isSo_350 : decode cL_isSo 350 = .ok (.iadd, 1) := by decide +kernel
theorem dL_isSo_351 : decode cL_isSo 351 = .ok (.istore 17, 2) := by decide +kernel
theorem dL_isSo_353 : decode cL_isSo 353 = .ok (.iinc 19 1, 3) := by decide +kernel
theorem dL_isSo_356 : decode cL_isSo 356 = .ok (.goto (-52), 3) := by decide +kernel
theorem dL_isSo_359 : decode cL_isSo 359 = .ok (.iconst 0, 1) := by decide +kernel
theorem dL_isSo_360 : decode cL_isSo 360 = .ok (.istore 19, 2) := by decide +kernel
theorem dL_isSo_362 : decode cL_isSo 362 = .ok (.iload 19, 2) := by decide +kernel
theorem dL_isSo_364 : decode cL_isSo 364 = .ok (.sipush 256, 3) := by decide +kernel
theorem dL_isSo_367 : decode cL_isSo 367 = .ok (.if_icmp .ge 42, 3) := by decide +kernel
theorem dL_isSo_370 : decode cL_isSo 370 = .ok (.iload 18, 2) := by decide +kernel
theorem dL_isSo_372 : decode cL_isSo 372 = .ok (.ifCond .eq 28, 3) := by decide +kernel
theorem dL_isSo_375 : decode cL_isSo 375 = .ok (.aload 5, 2) := by decide +kernel
theorem dL_isSo_377 : decode cL_isSo 377 = .ok (.iload 19, 2) := by decide +kernel
theorem dL_isSo_379 : decode cL_isSo 379 = .ok (.invokestatic 53, 3) := by decide +kernel
theorem dL_isSo_382 : decode cL_isSo 382 = .ok (.ifCond .eq 14, 3) := by decide +kernel
theorem dL_isSo_385 : decode cL_isSo 385 = .ok (.iload 19, 2) := by decide +kernel
theorem dL_isSo_387 : decode cL_isSo 387 = .ok (.iload 15, 2) := by decide +kernel
theorem dL_isSo_389 : decode cL_isSo 389 = .ok (.ishr, 1) := by decide +kernel
theorem dL_isSo_390 : decode cL_isSo 390 = .ok (.iconst 1, 1) := by decide +kernel
theorem dL_isSo_391 : decode cL_isSo 391 = .ok (.iand, 1) := by decide +kernel
theorem dL_isSo_392 : decode cL_isSo 392 = .ok (.iconst 1, 1) := by decide +kernel
theorem dL_isSo_393 : decode cL_isSo 393 = .ok (.if_icmp .ne 7, 3) := by decide +kernel
theorem dL_isSo_396 : decode cL_isSo 396 = .ok (.iconst 1, 1) := by decide +kernel
theorem dL_isSo_397 : decode cL_isSo 397 = .ok (.goto 4, 3) := by decide +kernel
theorem dL_isSo_400 : decode cL_isSo 400 = .ok (.iconst 0, 1) := by decide +kernel
theorem dL_isSo_401 : decode cL_isSo 401 = .ok (.istore 18, 2) := by decide +kernel
theorem dL_isSo_403 : decode cL_isSo 403 = .ok (.iinc 19 1, 3) := by decide +kernel
theorem dL_isSo_406 : decode cL_isSo 406 = .ok (.goto (-44), 3) := by decide +kernel
theorem dL_isSo_409 : decode cL_isSo 409 = .ok (.aload 5, 2) := by decide +kernel
theorem dL_isSo_411 : decode cL_isSo 411 = .ok (.iload 15, 2) := by decide +kernel
theorem dL_isSo_413 : decode cL_isSo 413 = .ok (.invokestatic 57, 3) := by decide +kernel
theorem dL_isSo_416 : decode cL_isSo 416 = .ok (.istore 19, 2) := by decide +kernel
theorem dL_isSo_418 : decode cL_isSo 418 = .ok (.iload 8, 2) := by decide +kernel
theorem dL_isSo_420 : decode cL_isSo 420 = .ok (.aload_n 2, 1) := by decide +kernel
theorem dL_isSo_421 : decode cL_isSo 421 = .ok (.iload 15, 2) := by decide +kernel
theorem dL_isSo_423 : decode cL_isSo 423 = .ok (.iaload, 1) := by decide +kernel
theorem dL_isSo_424 : decode cL_isSo 424 = .ok (.iadd, 1) := by decide +kernel
theorem dL_isSo_425 : decode cL_isSo 425 = .ok (.istore 8, 2) := by decide +kernel
theorem dL_isSo_427 : decode cL_isSo 427 = .ok (.iload 9, 2) := by decide +kernel
theorem dL_isSo_429 : decode cL_isSo 429 = .ok (.aload_n 3, 1) := by decide +kernel
theorem dL_isSo_430 : decode cL_isSo 430 = .ok (.iload 15, 2) := by decide +kernel
theorem dL_isSo_432 : decode cL_isSo 432 = .ok (.iaload, 1) := by decide +kernel
theorem dL_isSo_433 : decode cL_isSo 433 = .ok (.ifCond .ge 15, 3) := by decide +kernel
theorem dL_isSo_436 : decode cL_isSo 436 = .ok (.iload 19, 2) := by decide +kernel
theorem dL_isSo_438 : decode cL_isSo 438 = .ok (.ifCond .ne 10, 3) := by decide +kernel
theorem dL_isSo_441 : decode cL_isSo 441 = .ok (.iconst 1, 1) := by decide +kernel
theorem dL_isSo_442 : decode cL_isSo 442 = .ok (.iload 15, 2) := by decide +kernel
theorem dL_isSo_444 : decode cL_isSo 444 = .ok (.ishl, 1) := by decide +kernel
theorem dL_isSo_445 : decode cL_isSo 445 = .ok (.goto 4, 3) := by decide +kernel
theorem dL_isSo_448 : decode cL_isSo 448 = .ok (.iconst 0, 1) := by decide +kernel
theorem dL_isSo_449 : decode cL_isSo 449 = .ok (.ior, 1) := by decide +kernel
theorem dL_isSo_450 : decode cL_isSo 450 = .ok (.istore 9, 2) := by decide +kernel
theorem dL_isSo_452 : decode cL_isSo 452 = .ok (.iload 10, 2) := by decide +kernel
theorem dL_isSo_454 : decode cL_isSo 454 = .ok (.iload 18, 2) := by decide +kernel
theorem dL_isSo_456 : decode cL_isSo 456 = .ok (.ifCond .eq 10, 3) := by decide +kernel
theorem dL_isSo_459 : decode cL_isSo 459 = .ok (.iconst 1, 1) := by decide +kernel
theorem dL_isSo_460 : decode cL_isSo 460 = .ok (.iload 15, 2) := by decide +kernel
theorem dL_isSo_462 : decode cL_isSo 462 = .ok (.ishl, 1) := by decide +kernel
theorem dL_isSo_463 : decode cL_isSo 463 = .ok (.goto 4, 3) := by decide +kernel
theorem dL_isSo_466 : decode cL_isSo 466 = .ok (.iconst 0, 1) := by decide +kernel
theorem dL_isSo_467 : decode cL_isSo 467 = .ok (.ior, 1) := by decide +kernel
theorem dL_isSo_468 : decode cL_isSo 468 = .ok (.istore 10, 2) := by decide +kernel
theorem dL_isSo_470 : decode cL_isSo 470 = .ok (.iload 11, 2) := by decide +kernel
theorem dL_isSo_472 : decode cL_isSo 472 = .ok (.aload 5, 2) := by decide +kernel
theorem dL_isSo_474 : decode cL_isSo 474 = .ok (.iload 6, 2) := by decide +kernel
theorem dL_isSo_476 : decode cL_isSo 476 = .ok (.iload 15, 2) := by decide +kernel
theorem dL_isSo_478 : decode cL_isSo 478 = .ok (.invokestatic 133, 3) := by decide +kernel
theorem dL_isSo_481 : decode cL_isSo 481 = .ok (.iadd, 1) := by decide +kernel
theorem dL_isSo_482 : decode cL_isSo 482 = .ok (.istore 11, 2) := by decide +kernel
theorem dL_isSo_484 : decode cL_isSo 484 = .ok (.aload_n 0, 1) := by decide +kernel
theorem dL_isSo_485 : decode cL_isSo 485 = .ok (.iload 15, 2) := by decide +kernel
theorem dL_isSo_487 : decode cL_isSo 487 = .ok (.iconst 0, 1) := by decide +kernel
theorem dL_isSo_488 : decode cL_isSo 488 = .ok (.invokestatic 137, 3) := by decide +kernel
theorem dL_isSo_491 : decode cL_isSo 491 = .ok (.aload_n 2, 1) := by decide +kernel
theorem dL_isSo_492 : decode cL_isSo 492 = .ok (.iload 15, 2) := by decide +kernel
theorem dL_isSo_494 : decode cL_isSo 494 = .ok (.iaload, 1) := by decide +kernel
theorem dL_isSo_495 : decode cL_isSo 495 = .ok (.if_icmp .ne 125, 3) := by decide +kernel
theorem dL_isSo_498 : decode cL_isSo 498 = .ok (.aload_n 0, 1) := by decide +kernel
theorem dL_isSo_499 : decode cL_isSo 499 = .ok (.iload 15, 2) := by decide +kernel
theorem dL_isSo_501 : decode cL_isSo 501 = .ok (.iconst 1, 1) := by decide +kernel
theorem dL_isSo_502 : decode cL_isSo 502 = .ok (.invokestatic 137, 3) := by decide +kernel
theorem dL_isSo_505 : decode cL_isSo 505 = .ok (.aload_n 3, 1) := by decide +kernel
theorem dL_isSo_506 : decode cL_isSo 506 = .ok (.iload 15, 2) := by decide +kernel
theorem dL_isSo_508 : decode cL_isSo 508 = .ok (.iaload, 1) := by decide +kernel
theorem dL_isSo_509 : decode cL_isSo 509 = .ok (.if_icmp .ne 111, 3) := by decide +kernel
theorem dL_isSo_512 : decode cL_isSo 512 = .ok (.aload_n 0, 1) := by decide +kernel
theorem dL_isSo_513 : decode cL_isSo 513 = .ok (.iload 15, 2) := by decide +kernel
theorem dL_isSo_515 : decode cL_isSo 515 = .ok (.iconst 2, 1) := by decide +kernel
theorem dL_isSo_516 : decode cL_isSo 516 = .ok (.invokestatic 137, 3) := by decide +kernel
theorem dL_isSo_519 : decode cL_isSo 519 = .ok (.iload 17, 2) := by decide +kernel
theorem dL_isSo_521 : decode cL_isSo 521 = .ok (.if_icmp .ne 99, 3) := by decide +kernel
theorem dL_isSo_524 : decode cL_isSo 524 = .ok (.aload_n 0, 1) := by decide +kernel
theorem dL_isSo_525 : decode cL_isSo 525 = .ok (.iload 15, 2) := by decide +kernel
theorem dL_isSo_527 : decode cL_isSo 527 = .ok (.iconst 3, 1) := by decide +kernel
theorem dL_isSo_528 : decode cL_isSo 528 = .ok (.invokestatic 137, 3) := by decide +kernel
theorem dL_isSo_531 : decode cL_isSo 531 = .ok (.iload 16, 2) := by decide +kernel
theorem dL_isSo_533 : decode cL_isSo 533 = .ok (.if_icmp .ne 87, 3) := by decide +kernel
theorem dL_isSo_536 : decode cL_isSo 536 = .ok (.aload_n 0, 1) := by decide +kernel
theorem dL_isSo_537 : decode cL_isSo 537 = .ok (.iload 15, 2) := by decide +kernel
theorem dL_isSo_539 : decode cL_isSo 539 = .ok (.iconst 4, 1) := by decide +kernel
theorem dL_isSo_540 : decode cL_isSo 540 = .ok (.invokestatic 137, 3) := by decide +kernel
theorem dL_isSo_543 : decode cL_isSo 543 = .ok (.iload 19, 2) := by decide +kernel
theorem dL_isSo_545 : decode cL_isSo 545 = .ok (.if_icmp .ne 75, 3) := by decide +kernel
theorem dL_isSo_548 : decode cL_isSo 548 = .ok (.aload_n 0, 1) := by decide +kernel
theorem dL_isSo_549 : decode cL_isSo 549 = .ok (.iload 15, 2) := by decide +kernel
theorem dL_isSo_551 : decode cL_isSo 551 = .ok (.iconst 5, 1) := by decide +kernel
theorem dL_isSo_552 : decode cL_isSo 552 = .ok (.invokestatic 137, 3) := by decide +kernel
theorem dL_isSo_555 : decode cL_isSo 555 = .ok (.aload 5, 2) := by decide +kernel
theorem dL_isSo_557 : decode cL_isSo 557 = .ok (.iload 6, 2) := by decide +kernel
theorem dL_isSo_559 : decode cL_isSo 559 = .ok (.iload 15, 2) := by decide +kernel
theorem dL_isSo_561 : decode cL_isSo 561 = .ok (.invokestatic 133, 3) := by decide +kernel
theorem dL_isSo_564 : decode cL_isSo 564 = .ok (.if_icmp .ne 56, 3) := by decide +kernel
theorem dL_isSo_567 : decode cL_isSo 567 = .ok (.aload_n 0, 1) := by decide +kernel
theorem dL_isSo_568 : decode cL_isSo 568 = .ok (.iload 15, 2) := by decide +kernel
theorem dL_isSo_570 : decode cL_isSo 570 = .ok (.bipush 6, 2) := by decide +kernel
theorem dL_isSo_572 : decode cL_isSo 572 = .ok (.invokestatic 137, 3) := by decide +kernel
theorem dL_isSo_575 : decode cL_isSo 575 = .ok (.iload 9, 2) := by decide +kernel
theorem dL_isSo_577 : decode cL_isSo 577 = .ok (.iload 15, 2) := by decide +kernel
theorem dL_isSo_579 : decode cL_isSo 579 = .ok (.ishr, 1) := by decide +kernel
theorem dL_isSo_580 : decode cL_isSo 580 = .ok (.iconst 1, 1) := by decide +kernel
theorem dL_isSo_581 : decode cL_isSo 581 = .ok (.iand, 1) := by decide +kernel
theorem dL_isSo_582 : decode cL_isSo 582 = .ok (.if_icmp .ne 38, 3) := by decide +kernel
theorem dL_isSo_585 : decode cL_isSo 585 = .ok (.aload_n 0, 1) := by decide +kernel
theorem dL_isSo_586 : decode cL_isSo 586 = .ok (.iload 15, 2) := by decide +kernel
theorem dL_isSo_588 : decode cL_isSo 588 = .ok (.bipush 7, 2) := by decide +kernel
theorem dL_isSo_590 : decode cL_isSo 590 = .ok (.invokestatic 137, 3) := by decide +kernel
theorem dL_isSo_593 : decode cL_isSo 593 = .ok (.iload 10, 2) := by decide +kernel
theorem dL_isSo_595 : decode cL_isSo 595 = .ok (.iload 15, 2) := by decide +kernel
theorem dL_isSo_597 : decode cL_isSo 597 = .ok (.ishr, 1) := by decide +kernel
theorem dL_isSo_598 : decode cL_isSo 598 = .ok (.iconst 1, 1) := by decide +kernel
theorem dL_isSo_599 : decode cL_isSo 599 = .ok (.iand, 1) := by decide +kernel
theorem dL_isSo_600 : decode cL_isSo 600 = .ok (.if_icmp .ne 20, 3) := by decide +kernel
theorem dL_isSo_603 : decode cL_isSo 603 = .ok (.aload_n 0, 1) := by decide +kernel
theorem dL_isSo_604 : decode cL_isSo 604 = .ok (.iload 15, 2) := by decide +kernel
theorem dL_isSo_606 : decode cL_isSo 606 = .ok (.bipush 8, 2) := by decide +kernel
theorem dL_isSo_608 : decode cL_isSo 608 = .ok (.invokestatic 137, 3) := by decide +kernel
theorem dL_isSo_611 : decode cL_isSo 611 = .ok (.ldc 17, 2) := by decide +kernel
theorem dL_isSo_613 : decode cL_isSo 613 = .ok (.if_icmp .ne 7, 3) := by decide +kernel
theorem dL_isSo_616 : decode cL_isSo 616 = .ok (.iconst 1, 1) := by decide +kernel
theorem dL_isSo_617 : decode cL_isSo 617 = .ok (.goto 4, 3) := by decide +kernel
theorem dL_isSo_620 : decode cL_isSo 620 = .ok (.iconst 0, 1) := by decide +kernel
theorem dL_isSo_621 : decode cL_isSo 621 = .ok (.istore 14, 2) := by decide +kernel
theorem dL_isSo_623 : decode cL_isSo 623 = .ok (.iload 7, 2) := by decide +kernel
theorem dL_isSo_625 : decode cL_isSo 625 = .ok (.ifCond .ne 12, 3) := by decide +kernel
theorem dL_isSo_628 : decode cL_isSo 628 = .ok (.aload_n 0, 1) := by decide +kernel
theorem dL_isSo_629 : decode cL_isSo 629 = .ok (.iload 15, 2) := by decide +kernel
theorem dL_isSo_631 : decode cL_isSo 631 = .ok (.invokestatic 140, 3) := by decide +kernel
theorem dL_isSo_634 : decode cL_isSo 634 = .ok (.goto 17, 3) := by decide +kernel
theorem dL_isSo_637 : decode cL_isSo 637 = .ok (.aload_n 0, 1) := by decide +kernel
theorem dL_isSo_638 : decode cL_isSo 638 = .ok (.iload 15, 2) := by decide +kernel
theorem dL_isSo_640 : decode cL_isSo 640 = .ok (.invokestatic 140, 3) := by decide +kernel
theorem dL_isSo_643 : decode cL_isSo 643 = .ok (.iload 19, 2) := by decide +kernel
theorem dL_isSo_645 : decode cL_isSo 645 = .ok (.i2d, 1) := by decide +kernel
theorem dL_isSo_646 : decode cL_isSo 646 = .ok (.iload 7, 2) := by decide +kernel
theorem dL_isSo_648 : decode cL_isSo 648 = .ok (.i2d, 1) := by decide +kernel
theorem dL_isSo_649 : decode cL_isSo 649 = .ok (.ddiv, 1) := by decide +kernel
theorem dL_isSo_650 : decode cL_isSo 650 = .ok (.dsub, 1) := by decide +kernel
theorem dL_isSo_651 : decode cL_isSo 651 = .ok (.dstore 20, 2) := by decide +kernel
theorem dL_isSo_653 : decode cL_isSo 653 = .ok (.aload_n 3, 1) := by decide +kernel
theorem dL_isSo_654 : decode cL_isSo 654 = .ok (.iload 15, 2) := by decide +kernel
theorem dL_isSo_656 : decode cL_isSo 656 = .ok (.iaload, 1) := by decide +kernel
theorem dL_isSo_657 : decode cL_isSo 657 = .ok (.ifCond .ge 26, 3) := by decide +kernel
theorem dL_isSo_660 : decode cL_isSo 660 = .ok (.aload 5, 2) := by decide +kernel
theorem dL_isSo_662 : decode cL_isSo 662 = .ok (.iload 6, 2) := by decide +kernel
theorem dL_isSo_664 : decode cL_isSo 664 = .ok (.iload 15, 2) := by decide +kernel
theorem dL_isSo_666 : decode cL_isSo 666 = .ok (.invokestatic 133, 3) := by decide +kernel
theorem dL_isSo_669 : decode cL_isSo 669 = .ok (.i2d, 1) := by decide +kernel
theorem dL_isSo_670 : decode cL_isSo 670 = .ok (.iload 6, 2) := by decide +kernel
theorem dL_isSo_672 : decode cL_isSo 672 = .ok (.invokestatic 61, 3) := by decide +kernel
theorem dL_isSo_675 : decode cL_isSo 675 = .ok (.invokestatic 64, 3) := by decide +kernel
theorem dL_isSo_678 : decode cL_isSo 678 = .ok (.i2d, 1) := by decide +kernel
theorem dL_isSo_679 : decode cL_isSo 679 = .ok (.ddiv, 1) := by decide +kernel
theorem dL_isSo_680 : decode cL_isSo 680 = .ok (.goto 4, 3) := by decide +kernel
theorem dL_isSo_683 : decode cL_isSo 683 = .ok (.dconst 0, 1) := by decide +kernel
theorem dL_isSo_684 : decode cL_isSo 684 = .ok (.dstore 22, 2) := by decide +kernel
theorem dL_isSo_686 : decode cL_isSo 686 = .ok (.iload 14, 2) := by decide +kernel
theorem dL_isSo_688 : decode cL_isSo 688 = .ok (.ifCond .eq 37, 3) := by decide +kernel
theorem dL_isSo_691 : decode cL_isSo 691 = .ok (.dload 20, 2) := by decide +kernel
theorem dL_isSo_693 : decode cL_isSo 693 = .ok (.ldc2_w 144, 3) := by decide +kernel
theorem dL_isSo_696 : decode cL_isSo 696 = .ok (.dcmp .g, 1) := by decide +kernel
theorem dL_isSo_697 : decode cL_isSo 697 = .ok (.ifCond .ge 28, 3) := by decide +kernel
theorem dL_isSo_700 : decode cL_isSo 700 = .ok (.dload 20, 2) := by decide +kernel
theorem dL_isSo_702 : decode cL_isSo 702 = .ok (.ldc2_w 146, 3) := by decide +kernel
theorem dL_isSo_705 : decode cL_isSo 705 = .ok (.dcmp .l, 1) := by decide +kernel
theorem dL_isSo_706 : decode cL_isSo 706 = .ok (.ifCond .le 19, 3) := by decide +kernel
theorem dL_isSo_709 : decode cL_isSo 709 = .ok (.aload_n 0, 1) := by decide +kernel
theorem dL_isSo_710 : decode cL_isSo 710 = .ok (.iload 15, 2) := by decide +kernel
theorem dL_isSo_712 : decode cL_isSo 712 = .ok (.invokestatic 148, 3) := by decide +kernel
theorem dL_isSo_715 : decode cL_isSo 715 = .ok (.dload 22, 2) := by decide +kernel
theorem dL_isSo_717 : decode cL_isSo 717 = .ok (.dcmp .l, 1) := by decide +kernel
theorem dL_isSo_718 : decode cL_isSo 718 = .ok (.ifCond .ne 7, 3) := by decide +kernel
theorem dL_isSo_721 : decode cL_isSo 721 = .ok (.iconst 1, 1) := by decide +kernel
theorem dL_isSo_722 : decode cL_isSo 722 = .ok (.goto 4, 3) := by decide +kernel
theorem dL_isSo_725 : decode cL_isSo 725 = .ok (.iconst 0, 1) := by decide +kernel
theorem dL_isSo_726 : decode cL_isSo 726 = .ok (.istore 14, 2) := by decide +kernel
theorem dL_isSo_728 : decode cL_isSo 728 = .ok (.iinc 15 1, 3) := by decide +kernel
theorem dL_isSo_731 : decode cL_isSo 731 = .ok (.goto (-482), 3) := by decide +kernel
theorem dL_isSo_734 : decode cL_isSo 734 = .ok (.iconst 0, 1) := by decide +kernel
theorem dL_isSo_735 : decode cL_isSo 735 = .ok (.istore 15, 2) := by decide +kernel
theorem dL_isSo_737 : decode cL_isSo 737 = .ok (.iconst 0, 1) := by decide +kernel
theorem dL_isSo_738 : decode cL_isSo 738 = .ok (.istore 16, 2) := by decide +kernel
theorem dL_isSo_740 : decode cL_isSo 740 = .ok (.iload 16, 2) := by decide +kernel
theorem dL_isSo_742 : decode cL_isSo 742 = .ok (.aload_n 1, 1) := by decide +kernel
theorem dL_isSo_743 : decode cL_isSo 743 = .ok (.iconst 2, 1) := by decide +kernel
theorem dL_isSo_744 : decode cL_isSo 744 = .ok (.iaload, 1) := by decide +kernel
theorem dL_isSo_745 : decode cL_isSo 745 = .ok (.if_icmp .ge 173, 3) := by decide +kernel
theorem dL_isSo_748 : decode cL_isSo 748 = .ok (.iload 14, 2) := by decide +kernel
theorem dL_isSo_750 : decode cL_isSo 750 = .ok (.ifCond .eq 168, 3) := by decide +kernel
theorem dL_isSo_753 : decode cL_isSo 753 = .ok (.aload 4, 2) := by decide +kernel
theorem dL_isSo_755 : decode cL_isSo 755 = .ok (.iload 16, 2) := by decide +kernel
theorem dL_isSo_757 : decode cL_isSo 757 = .ok (.iaload, 1) := by decide +kernel
theorem dL_isSo_758 : decode cL_isSo 758 = .ok (.sipush 1000, 3) := by decide +kernel
theorem dL_isSo_761 : decode cL_isSo 761 = .ok (.idiv, 1) := by decide +kernel
theorem dL_isSo_762 : decode cL_isSo 762 = .ok (.istore 17, 2) := by decide +kernel
theorem dL_isSo_764 : decode cL_isSo 764 = .ok (.aload 4, 2) := by decide +kernel
theorem dL_isSo_766 : decode cL_isSo 766 = .ok (.iload 16, 2) := by decide +kernel
theorem dL_isSo_768 : decode cL_isSo 768 = .ok (.iaload, 1) := by decide +kernel
theorem dL_isSo_769 : decode cL_isSo 769 = .ok (.sipush 1000, 3) := by decide +kernel
theorem dL_isSo_772 : decode cL_isSo 772 = .ok (.irem, 1) := by decide +kernel
theorem dL_isSo_773 : decode cL_isSo 773 = .ok (.istore 18, 2) := by decide +kernel
theorem dL_isSo_775 : decode cL_isSo 775 = .ok (.iload 15, 2) := by decide +kernel
theorem dL_isSo_777 : decode cL_isSo 777 = .ok (.aload 4, 2) := by decide +kernel
theorem dL_isSo_779 : decode cL_isSo 779 = .ok (.iconst 0, 1) := by decide +kernel
theorem dL_isSo_780 : decode cL_isSo 780 = .ok (.iaload, 1) := by decide +kernel
theorem dL_isSo_781 : decode cL_isSo 781 = .ok (.sipush 1000, 3) := by decide +kernel
theorem dL_isSo_784 : decode cL_isSo 784 = .ok (.idiv, 1) := by decide +kernel
theorem dL_isSo_785 : decode cL_isSo 785 = .ok (.iload 17, 2) := by decide +kernel
theorem dL_isSo_787 : decode cL_isSo 787 = .ok (.if_icmp .ne 7, 3) := by decide +kernel
theorem dL_isSo_790 : decode cL_isSo 790 = .ok (.iconst 1, 1) := by decide +kernel
theorem dL_isSo_791 : decode cL_isSo 791 = .ok (.goto 4, 3) := by decide +kernel
theorem dL_isSo_794 : decode cL_isSo 794 = .ok (.iconst 0, 1) := by decide +kernel
theorem dL_isSo_795 : decode cL_isSo 795 = .ok (.iadd, 1) := by decide +kernel
theorem dL_isSo_796 : decode cL_isSo 796 = .ok (.istore 15, 2) := by decide +kernel
theorem dL_isSo_798 : decode cL_isSo 798 = .ok (.iload 17, 2) := by decide +kernel
theorem dL_isSo_800 : decode cL_isSo 800 = .ok (.ifCond .ne 19, 3) := by decide +kernel
theorem dL_isSo_803 : decode cL_isSo 803 = .ok (.aload_n 1, 1) := by decide +kernel
theorem dL_isSo_804 : decode cL_isSo 804 = .ok (.iconst 0, 1) := by decide +kernel
theorem dL_isSo_805 : decode cL_isSo 805 = .ok (.iaload, 1) := by decide +kernel
theorem dL_isSo_806 : decode cL_isSo 806 = .ok (.iload 18, 2) := by decide +kernel
theorem dL_isSo_808 : decode cL_isSo 808 = .ok (.if_icmp .lt 7, 3) := by decide +kernel
theorem dL_isSo_811 : decode cL_isSo 811 = .ok (.iconst 1, 1) := by decide +kernel
theorem dL_isSo_812 : decode cL_isSo 812 = .ok (.goto 47, 3) := by decide +kernel
theorem dL_isSo_815 : decode cL_isSo 815 = .ok (.iconst 0, 1) := by decide +kernel
theorem dL_isSo_816 : decode cL_isSo 816 = .ok (.goto 43, 3) := by decide +kernel
theorem dL_isSo_819 : decode cL_isSo 819 = .ok (.iload 17, 2) := by decide +kernel
theorem dL_isSo_821 : decode cL_isSo 821 = .ok (.iconst 1, 1) := by decide +kernel
theorem dL_isSo_822 : decode cL_isSo 822 = .ok (.if_icmp .ne 19, 3) := by decide +kernel
theorem dL_isSo_825 : decode cL_isSo 825 = .ok (.iload 18, 2) := by decide +kernel
theorem dL_isSo_827 : decode cL_isSo 827 = .ok (.aload_n 1, 1) := by decide +kernel
theorem dL_isSo_828 : decode cL_isSo 828 = .ok (.iconst 0, 1) := by decide +kernel
theorem dL_isSo_829 : decode cL_isSo 829 = .ok (.iaload, 1) := by decide +kernel
theorem dL_isSo_830 : decode cL_isSo 830 = .ok (.if_icmp .ge 7, 3) := by decide +kernel
theorem dL_isSo_833 : decode cL_isSo 833 = .ok (.iconst 1, 1) := by decide +kernel
theorem dL_isSo_834 : decode cL_isSo 834 = .ok (.goto 25, 3) := by decide +kernel
theorem dL_isSo_837 : decode cL_isSo 837 = .ok (.iconst 0, 1) := by decide +kernel
theorem dL_isSo_838 : decode cL_isSo 838 = .ok (.goto 21, 3) := by decide +kernel
theorem dL_isSo_841 : decode cL_isSo 841 = .ok (.iload 18, 2) := by decide +kernel
theorem dL_isSo_843 : decode cL_isSo 843 = .ok (.iconst 1, 1) := by decide +kernel
theorem dL_isSo_844 : decode cL_isSo 844 = .ok (.aload_n 1, 1) := by decide +kernel
theorem dL_isSo_845 : decode cL_isSo 845 = .ok (.iconst 0, 1) := by decide +kernel
theorem dL_isSo_846 : decode cL_isSo 846 = .ok (.iaload, 1) := by decide +kernel
theorem dL_isSo_847 : decode cL_isSo 847 = .ok (.ishl, 1) := by decide +kernel
theorem dL_isSo_848 : decode cL_isSo 848 = .ok (.iconst 1, 1) := by decide +kernel
theorem dL_isSo_849 : decode cL_isSo 849 = .ok (.isub, 1) := by decide +kernel
theorem dL_isSo_850 : decode cL_isSo 850 = .ok (.iand, 1) := by decide +kernel
theorem dL_isSo_851 : decode cL_isSo 851 = .ok (.ifCond .le 7, 3) := by decide +kernel
theorem dL_isSo_854 : decode cL_isSo 854 = .ok (.iconst 1, 1) := by decide +kernel
theorem dL_isSo_855 : decode cL_isSo 855 = .ok (.goto 4, 3) := by decide +kernel
theorem dL_isSo_858 : decode cL_isSo 858 = .ok (.iconst 0, 1) := by decide +kernel
theorem dL_isSo_859 : decode cL_isSo 859 = .ok (.istore 19, 2) := by decide +kernel
theorem dL_isSo_861 : decode cL_isSo 861 = .ok (.aload_n 0, 1) := by decide +kernel
theorem dL_isSo_862 : decode cL_isSo 862 = .ok (.iload 16, 2) := by decide +kernel
theorem dL_isSo_864 : decode cL_isSo 864 = .ok (.iconst 0, 1) := by decide +kernel
theorem dL_isSo_865 : decode cL_isSo 865 = .ok (.invokestatic 151, 3) := by decide +kernel
theorem dL_isSo_868 : decode cL_isSo 868 = .ok (.iload 17, 2) := by decide +kernel
theorem dL_isSo_870 : decode cL_isSo 870 = .ok (.if_icmp .ne 39, 3) := by decide +kernel
theorem dL_isSo_873 : decode cL_isSo 873 = .ok (.aload_n 0, 1) := by decide +kernel
theorem dL_isSo_874 : decode cL_isSo 874 = .ok (.iload 16, 2) := by decide +kernel
theorem dL_isSo_876 : decode cL_isSo 876 = .ok (.iconst 1, 1) := by decide +kernel
theorem dL_isSo_877 : decode cL_isSo 877 = .ok (.invokestatic 151, 3) := by decide +kernel
theorem dL_isSo_880 : decode cL_isSo 880 = .ok (.iload 18, 2) := by decide +kernel
theorem dL_isSo_882 : decode cL_isSo 882 = .ok (.if_icmp .ne 27, 3) := by decide +kernel
theorem dL_isSo_885 : decode cL_isSo 885 = .ok (.aload_n 0, 1) := by decide +kernel
theorem dL_isSo_886 : decode cL_isSo 886 = .ok (.iload 16, 2) := by decide +kernel
theorem dL_isSo_888 : decode cL_isSo 888 = .ok (.iconst 2, 1) := by decide +kernel
theorem dL_isSo_889 : decode cL_isSo 889 = .ok (.invokestatic 151, 3) := by decide +kernel
theorem dL_isSo_892 : decode cL_isSo 892 = .ok (.iload 19, 2) := by decide +kernel
theorem dL_isSo_894 : decode cL_isSo 894 = .ok (.ifCond .eq 7, 3) := by decide +kernel
theorem dL_isSo_897 : decode cL_isSo 897 = .ok (.iconst 1, 1) := by decide +kernel
theorem dL_isSo_898 : decode cL_isSo 898 = .ok (.goto 4, 3) := by decide +kernel
theorem dL_isSo_901 : decode cL_isSo 901 = .ok (.iconst 0, 1) := by decide +kernel
theorem dL_isSo_902 : decode cL_isSo 902 = .ok (.if_icmp .ne 7, 3) := by decide +kernel
theorem dL_isSo_905 : decode cL_isSo 905 = .ok (.iconst 1, 1) := by decide +kernel
theorem dL_isSo_906 : decode cL_isSo 906 = .ok (.goto 4, 3) := by decide +kernel
theorem dL_isSo_909 : decode cL_isSo 909 = .ok (.iconst 0, 1) := by decide +kernel
theorem dL_isSo_910 : decode cL_isSo 910 = .ok (.istore 14, 2) := by decide +kernel
theorem dL_isSo_912 : decode cL_isSo 912 = .ok (.iinc 16 1, 3) := by decide +kernel
theorem dL_isSo_915 : decode cL_isSo 915 = .ok (.goto (-175), 3) := by decide +kernel
theorem dL_isSo_918 : decode cL_isSo 918 = .ok (.iload 14, 2) := by decide +kernel
theorem dL_isSo_920 : decode cL_isSo 920 = .ok (.ifCond .eq 34, 3) := by decide +kernel
theorem dL_isSo_923 : decode cL_isSo 923 = .ok (.iload 11, 2) := by decide +kernel
theorem dL_isSo_925 : decode cL_isSo 925 = .ok (.aload 5, 2) := by decide +kernel
theorem dL_isSo_927 : decode cL_isSo 927 = .ok (.iload 6, 2) := by decide +kernel
theorem dL_isSo_929 : decode cL_isSo 929 = .ok (.invokestatic 53, 3) := by decide +kernel
theorem dL_isSo_932 : decode cL_isSo 932 = .ok (.ifCond .eq 14, 3) := by decide +kernel
theorem dL_isSo_935 : decode cL_isSo 935 = .ok (.iload 6, 2) := by decide +kernel
theorem dL_isSo_937 : decode cL_isSo 937 = .ok (.invokestatic 61, 3) := by decide +kernel
theorem dL_isSo_940 : decode cL_isSo 940 = .ok (.invokestatic 64, 3) := by decide +kernel
theorem dL_isSo_943 : decode cL_isSo 943 = .ok (.goto 4, 3) := by decide +kernel
theorem dL_isSo_946 : decode cL_isSo 946 = .ok (.iconst 0, 1) := by decide +kernel
theorem dL_isSo_947 : decode cL_isSo 947 = .ok (.if_icmp .ne 7, 3) := by decide +kernel
theorem dL_isSo_950 : decode cL_isSo 950 = .ok (.iconst 1, 1) := by decide +kernel
theorem dL_isSo_951 : decode cL_isSo 951 = .ok (.goto 4, 3) := by decide +kernel
theorem dL_isSo_954 : decode cL_isSo 954 = .ok (.iconst 0, 1) := by decide +kernel
theorem dL_isSo_955 : decode cL_isSo 955 = .ok (.istore 14, 2) := by decide +kernel
theorem dL_isSo_957 : decode cL_isSo 957 = .ok (.iload 14, 2) := by decide +kernel
theorem dL_isSo_959 : decode cL_isSo 959 = .ok (.ifCond .eq 147, 3) := by decide +kernel
theorem dL_isSo_962 : decode cL_isSo 962 = .ok (.aload_n 0, 1) := by decide +kernel
theorem dL_isSo_963 : decode cL_isSo 963 = .ok (.iload 13, 2) := by decide +kernel
theorem dL_isSo_965 : decode cL_isSo 965 = .ok (.invokestatic 127, 3) := by decide +kernel
theorem dL_isSo_968 : decode cL_isSo 968 = .ok (.iconst (-1), 1) := by decide +kernel
theorem dL_isSo_969 : decode cL_isSo 969 = .ok (.if_icmp .ne 137, 3) := by decide +kernel
theorem dL_isSo_972 : decode cL_isSo 972 = .ok (.aload_n 0, 1) := by decide +kernel
theorem dL_isSo_973 : decode cL_isSo 973 = .ok (.iconst 0, 1) := by decide +kernel
theorem dL_isSo_974 : decode cL_isSo 974 = .ok (.invokestatic 154, 3) := by decide +kernel
theorem dL_isSo_977 : decode cL_isSo 977 = .ok (.aload_n 1, 1) := by decide +kernel
theorem dL_isSo_978 : decode cL_isSo 978 = .ok (.iconst 0, 1) := by decide +kernel
theorem dL_isSo_979 : decode cL_isSo 979 = .ok (.iaload, 1) := by decide +kernel
theorem dL_isSo_980 : decode cL_isSo 980 = .ok (.if_icmp .ne 126, 3) := by decide +kernel
theorem dL_isSo_983 : decode cL_isSo 983 = .ok (.aload_n 0, 1) := by decide +kernel
theorem dL_isSo_984 : decode cL_isSo 984 = .ok (.iconst 1, 1) := by decide +kernel
theorem dL_isSo_985 : decode cL_isSo 985 = .ok (.invokestatic 154, 3) := by decide +kernel
theorem dL_isSo_988 : decode cL_isSo 988 = .ok (.iload 6, 2) := by decide +kernel
theorem dL_isSo_990 : decode cL_isSo 990 = .ok (.invokestatic 61, 3) := by decide +kernel
theorem dL_isSo_993 : decode cL_isSo 993 = .ok (.if_icmp .ne 113, 3) := by decide +kernel
theorem dL_isSo_996 : decode cL_isSo 996 = .ok (.aload_n 0, 1) := by decide +kernel
theorem dL_isSo_997 : decode cL_isSo 997 = .ok (.iconst 2, 1) := by decide +kernel
theorem dL_isSo_998 : decode cL_isSo 998 = .ok (.invokestatic 154, 3) := by decide +kernel
theorem dL_isSo_1001 : decode cL_isSo 1001 = .ok (.aload_n 1, 1) := by decide +kernel
theorem dL_isSo_1002 : decode cL_isSo 1002 = .ok (.iconst 1, 1) := by decide +kernel
theorem dL_isSo_1003 : decode cL_isSo 1003 = .ok (.iaload, 1) := by decide +kernel
theorem dL_isSo_1004 : decode cL_isSo 1004 = .ok (.if_icmp .ne 102, 3) := by decide +kernel
theorem dL_isSo_1007 : decode cL_isSo 1007 = .ok (.aload_n 0, 1) := by decide +kernel
theorem dL_isSo_1008 : decode cL_isSo 1008 = .ok (.iconst 3, 1) := by decide +kernel
theorem dL_isSo_1009 : decode cL_isSo 1009 = .ok (.invokestatic 154, 3) := by decide +kernel
theorem dL_isSo_1012 : decode cL_isSo 1012 = .ok (.aload_n 1, 1) := by decide +kernel
theorem dL_isSo_1013 : decode cL_isSo 1013 = .ok (.iconst 2, 1) := by decide +kernel
theorem dL_isSo_1014 : decode cL_isSo 1014 = .ok (.iaload, 1) := by decide +kernel
theorem dL_isSo_1015 : decode cL_isSo 1015 = .ok (.if_icmp .ne 91, 3) := by decide +kernel
theorem dL_isSo_1018 : decode cL_isSo 1018 = .ok (.aload_n 0, 1) := by decide +kernel
theorem dL_isSo_1019 : decode cL_isSo 1019 = .ok (.iconst 4, 1) := by decide +kernel
theorem dL_isSo_1020 : decode cL_isSo 1020 = .ok (.invokestatic 154, 3) := by decide +kernel
theorem dL_isSo_1023 : decode cL_isSo 1023 = .ok (.iload 8, 2) := by decide +kernel
theorem dL_isSo_1025 : decode cL_isSo 1025 = .ok (.if_icmp .ne 81, 3) := by decide +kernel
theorem dL_isSo_1028 : decode cL_isSo 1028 = .ok (.aload_n 0, 1) := by decide +kernel
theorem dL_isSo_1029 : decode cL_isSo 1029 = .ok (.iconst 5, 1) := by decide +kernel
theorem dL_isSo_1030 : decode cL_isSo 1030 = .ok (.invokestatic 154, 3) := by decide +kernel
theorem dL_isSo_1033 : decode cL_isSo 1033 = .ok (.iload 12, 2) := by decide +kernel
theorem dL_isSo_1035 : decode cL_isSo 1035 = .ok (.if_icmp .ne 71, 3) := by decide +kernel
theorem dL_isSo_1038 : decode cL_isSo 1038 = .ok (.aload_n 0, 1) := by decide +kernel
theorem dL_isSo_1039 : decode cL_isSo 1039 = .ok (.bipush 6, 2) := by decide +kernel
theorem dL_isSo_1041 : decode cL_isSo 1041 = .ok (.invokestatic 154, 3) := by decide +kernel
theorem dL_isSo_1044 : decode cL_isSo 1044 = .ok (.iload 13, 2) := by decide +kernel
theorem dL_isSo_1046 : decode cL_isSo 1046 = .ok (.if_icmp .ne 60, 3) := by decide +kernel
theorem dL_isSo_1049 : decode cL_isSo 1049 = .ok (.aload_n 0, 1) := by decide +kernel
theorem dL_isSo_1050 : decode cL_isSo 1050 = .ok (.bipush 7, 2) := by decide +kernel
theorem dL_isSo_1052 : decode cL_isSo 1052 = .ok (.invokestatic 154, 3) := by decide +kernel
theorem dL_isSo_1055 : decode cL_isSo 1055 = .ok (.iload 7, 2) := by decide +kernel
theorem dL_isSo_1057 : decode cL_isSo 1057 = .ok (.if_icmp .ne 49, 3) := by decide +kernel
theorem dL_isSo_1060 : decode cL_isSo 1060 = .ok (.aload_n 0, 1) := by decide +kernel
theorem dL_isSo_1061 : decode cL_isSo 1061 = .ok (.bipush 8, 2) := by decide +kernel
theorem dL_isSo_1063 : decode cL_isSo 1063 = .ok (.invokestatic 154, 3) := by decide +kernel
theorem dL_isSo_1066 : decode cL_isSo 1066 = .ok (.iload 9, 2) := by decide +kernel
theorem dL_isSo_1068 : decode cL_isSo 1068 = .ok (.if_icmp .ne 38, 3) := by decide +kernel
theorem dL_isSo_1071 : decode cL_isSo 1071 = .ok (.aload_n 0, 1) := by decide +kernel
theorem dL_isSo_1072 : decode cL_isSo 1072 = .ok (.bipush 9, 2) := by decide +kernel
theorem dL_isSo_1074 : decode cL_isSo 1074 = .ok (.invokestatic 154, 3) := by decide +kernel
theorem dL_isSo_1077 : decode cL_isSo 1077 = .ok (.iload 10, 2) := by decide +kernel
theorem dL_isSo_1079 : decode cL_isSo 1079 = .ok (.if_icmp .ne 27, 3) := by decide +kernel
theorem dL_isSo_1082 : decode cL_isSo 1082 = .ok (.aload_n 0, 1) := by decide +kernel
theorem dL_isSo_1083 : decode cL_isSo 1083 = .ok (.bipush 10, 2) := by decide +kernel
theorem dL_isSo_1085 : decode cL_isSo 1085 = .ok (.invokestatic 154, 3) := by decide +kernel
theorem dL_isSo_1088 : decode cL_isSo 1088 = .ok (.iload 15, 2) := by decide +kernel
theorem dL_isSo_1090 : decode cL_isSo 1090 = .ok (.if_icmp .ne 16, 3) := by decide +kernel
theorem dL_isSo_1093 : decode cL_isSo 1093 = .ok (.aload_n 0, 1) := by decide +kernel
theorem dL_isSo_1094 : decode cL_isSo 1094 = .ok (.bipush 11, 2) := by decide +kernel
theorem dL_isSo_1096 : decode cL_isSo 1096 = .ok (.invokestatic 154, 3) := by decide +kernel
theorem dL_isSo_1099 : decode cL_isSo 1099 = .ok (.ifCond .ne 7, 3) := by decide +kernel
theorem dL_isSo_1102 : decode cL_isSo 1102 = .ok (.iconst 1, 1) := by decide +kernel
theorem dL_isSo_1103 : decode cL_isSo 1103 = .ok (.goto 4, 3) := by decide +kernel
theorem dL_isSo_1106 : decode cL_isSo 1106 = .ok (.iconst 0, 1) := by decide +kernel
theorem dL_isSo_1107 : decode cL_isSo 1107 = .ok (.ireturn, 1) := by decide +kernel
