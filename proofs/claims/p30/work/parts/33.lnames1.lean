theorem dL_cell_0 : decode cL_cell 0 = .ok (.iload_n 1, 1) := by decide +kernel
theorem dL_cell_1 : decode cL_cell 1 = .ok (.aload_n 0, 1) := by decide +kernel
theorem dL_cell_2 : decode cL_cell 2 = .ok (.arraylength, 1) := by decide +kernel
theorem dL_cell_3 : decode cL_cell 3 = .ok (.if_icmp .ge 9, 3) := by decide +kernel
theorem dL_cell_6 : decode cL_cell 6 = .ok (.aload_n 0, 1) := by decide +kernel
theorem dL_cell_7 : decode cL_cell 7 = .ok (.iload_n 1, 1) := by decide +kernel
theorem dL_cell_8 : decode cL_cell 8 = .ok (.iaload, 1) := by decide +kernel
theorem dL_cell_9 : decode cL_cell 9 = .ok (.goto 9, 3) := by decide +kernel
theorem dL_cell_12 : decode cL_cell 12 = .ok (.ldc 7, 2) := by decide +kernel
theorem dL_cell_14 : decode cL_cell 14 = .ok (.iload_n 1, 1) := by decide +kernel
theorem dL_cell_15 : decode cL_cell 15 = .ok (.iconst 3, 1) := by decide +kernel
theorem dL_cell_16 : decode cL_cell 16 = .ok (.iadd, 1) := by decide +kernel
theorem dL_cell_17 : decode cL_cell 17 = .ok (.imul, 1) := by decide +kernel
theorem dL_cell_18 : decode cL_cell 18 = .ok (.ireturn, 1) := by decide +kernel
theorem dL_low_0 : decode cL_low 0 = .ok (.iload_n 0, 1) := by decide +kernel
theorem dL_low_1 : decode cL_low 1 = .ok (.ldc 8, 2) := by decide +kernel
theorem dL_low_3 : decode cL_low 3 = .ok (.iand, 1) := by decide +kernel
theorem dL_low_4 : decode cL_low 4 = .ok (.iload_n 1, 1) := by decide +kernel
theorem dL_low_5 : decode cL_low 5 = .ok (.irem, 1) := by decide +kernel
theorem dL_low_6 : decode cL_low 6 = .ok (.ireturn, 1) := by decide +kernel
set_option maxRecDepth 20000 in
theorem ggL_adds_X7_add : GoodIn wsL_adds wsX7_add := goodIn_ca (goodIn_ca (goodIn_ca (goodIn_r _ [9, 10, 11, 12, 13, 8, 14, 15, 16, 17, 18, 19, 20, 21, 22, 23, 24, 25, 26, 27, 28, 29, 30, 31, 32, 33, 34, 35, 36, 37, 38, 39, 40, 41, 42, 43, 44, 45, 46, 47, 48, 49, 50, 51, 52, 53, 54, 55, 56, 57, 58, 59, 60, 61, 62, 63, 64, 65, 66, 67, 68, 69, 70, 71, 72, 73, 74, 75, 76, 77, 78, 79, 80, 81, 82, 83, 84, 85, 86, 87, 88, 89, 90, 91, 92, 93, 94, 95, 96, 97, 98, 99, 100, 101, 102, 103, 104, 105, 106, 107, 108, 109, 110, 111, 112, 113, 114, 115, 116, 117, 118, 119, 120, 121, 122, 123, 124, 125, 126, 127, 128, 129, 130, 131, 132, 133, 134, 135, 136, 137, 138, 139, 140, 141, 142, 143, 144, 145, 146, 147, 148, 149, 150, 151, 152, 153, 154, 155, 156, 157, 158, 159, 160, 161, 162, 163, 164, 165, 166, 167, 168, 169, 170] (by decide +kernel) (by decide +kernel)) (goodIn_sub (fun _ h => List.mem_cons_of_mem _ (List.mem_append_left _ (List.mem_append_left _ (List.mem_append_right _ h)))) (by decide +kernel))) (goodIn_sub (fun _ h => List.mem_cons_of_mem _ (List.mem_append_left _ (List.mem_append_right _ h))) (by decide +kernel))) (goodIn_sub (fun _ h => List.mem_cons_of_mem _ (List.mem_append_right _ h)) (by decide +kernel))
set_option maxRecDepth 20000 in
theorem gL_adds_X7_add : GoodIn wsL_adds (wsV RL 9 RX7 yX7_add wsX7_add) := goodIn_app (goodIn_of _ (by decide +kernel)) ggL_adds_X7_add
theorem dL_adds_0 : decode cL_adds 0 = .ok (.aload_n 0, 1) := by decide +kernel
theorem dL_adds_1 : decode cL_adds 1 = .ok (.iload_n 1, 1) := by decide +kernel
theorem dL_adds_2 : decode cL_adds 2 = .ok (.invokevirtual 9, 3) := by decide +kernel
theorem dL_adds_5 : decode cL_adds 5 = .ok (.ireturn, 1) := by decide +kernel
theorem dL_adds_6 : decode cL_adds 6 = .ok (.astore_n 2, 1) := by decide +kernel
theorem dL_adds_7 : decode cL_adds 7 = .ok (.ldc 17, 2) := by decide +kernel
theorem dL_adds_9 : decode cL_adds 9 = .ok (.ireturn, 1) := by decide +kernel
theorem dL_adds_10 : decode cL_adds 10 = .ok (.astore_n 2, 1) := by decide +kernel
theorem dL_adds_11 : decode cL_adds 11 = .ok (.ldc 20, 2) := by decide +kernel
theorem dL_adds_13 : decode cL_adds 13 = .ok (.ireturn, 1) := by decide +kernel
set_option maxRecDepth 20000 in
theorem ggL_weighs_X7_setWeight : GoodIn wsL_weighs wsX7_setWeight := goodIn_ca (goodIn_ca (goodIn_ca (goodIn_r _ [9, 10, 11, 12, 13, 8, 14, 15, 16, 17, 18, 19, 20, 21, 22, 23, 24, 25, 26, 27, 28, 29, 30, 31, 32, 33, 34, 35, 36, 37, 38, 39, 40, 41, 42, 43, 44, 45, 46, 47, 48, 49, 50, 51, 52, 53, 54, 55, 56, 57, 58, 59, 60, 61, 62, 63, 64, 65, 66, 67, 68, 69, 70, 71, 72, 73, 74, 75, 76, 77, 78, 79, 80, 81, 82, 83, 84, 85, 86, 87, 88, 89, 90, 91, 92, 93, 94, 95, 96, 97, 98, 99, 100, 101, 102, 103, 104, 105, 106, 107, 108, 109, 110, 111, 112, 113, 114, 115, 116, 117, 118, 119, 120, 121, 122, 123, 124, 125, 126, 127, 128, 129, 130, 131, 132, 133, 134, 135, 136, 137, 138, 139, 140, 141, 142, 143, 144, 145, 146, 147, 148, 149, 150, 151, 152, 153, 154, 155, 156, 157, 158, 159, 160, 161, 162, 163, 164, 165, 166, 167, 168, 169, 170] (by decide +kernel) (by decide +kernel)) (goodIn_sub (fun _ h => List.mem_cons_of_mem _ (List.mem_append_left _ (List.mem_append_left _ (List.mem_append_right _ h)))) (by decide +kernel))) (goodIn_sub (fun _ h => List.mem_cons_of_mem _ (List.mem_append_left _ (List.mem_append_right _ h))) (by decide +kernel))) (goodIn_sub (fun _ h => List.mem_cons_of_mem _ (List.mem_append_right _ h)) (by decide +kernel))
set_option maxRecDepth 20000 in
theorem gL_weighs_X7_setWeight : GoodIn wsL_weighs (wsV RL 21 RX7 yX7_setWeight wsX7_setWeight) := goodIn_app (goodIn_of _ (by decide +kernel)) ggL_weighs_X7_setWeight
theorem dL_weighs_0 : decode cL_weighs 0 = .ok (.aload_n 0, 1) := by decide +kernel
theorem dL_weighs_1 : decode cL_weighs 1 = .ok (.iload_n 1, 1) := by decide +kernel
theorem dL_weighs_2 : decode cL_weighs 2 = .ok (.iload_n 2, 1) := by decide +kernel
theorem dL_weighs_3 : decode cL_weighs 3 = .ok (.invokevirtual 21, 3) := by decide +kernel
theorem dL_weighs_6 : decode cL_weighs 6 = .ok (.ireturn, 1) := by decide +kernel
theorem dL_weighs_7 : decode cL_weighs 7 = .ok (.astore_n 3, 1) := by decide +kernel
theorem dL_weighs_8 : decode cL_weighs 8 = .ok (.ldc 27, 2) := by decide +kernel
theorem dL_weighs_10 : decode cL_weighs 10 = .ok (.ireturn, 1) := by decide +kernel
theorem dL_weighs_11 : decode cL_weighs 11 = .ok (.astore_n 3, 1) := by decide +kernel
theorem dL_weighs_12 : decode cL_weighs 12 = .ok (.ldc 17, 2) := by decide +kernel
theorem dL_weighs_14 : decode cL_weighs 14 = .ok (.ireturn, 1) := by decide +kernel
set_option maxRecDepth 20000 in
theorem ggL_quotas_X7_setQuota : GoodIn wsL_quotas wsX7_setQuota := goodIn_ca (goodIn_ca (goodIn_ca (goodIn_r _ [7, 8, 9, 10, 11, 6, 12, 13, 14, 15, 16, 17, 18, 19, 20, 21, 22, 23, 24, 25, 26, 27, 28, 29, 30, 31, 32, 33, 34, 35, 36, 37, 38, 39, 40, 41, 42, 43, 44, 45, 46, 47, 48, 49, 50, 51, 52, 53, 54, 55, 56, 57, 58, 59, 60, 61, 62, 63, 64, 65, 66, 67, 68, 69, 70, 71, 72, 73, 74, 75, 76, 77, 78, 79, 80, 81, 82, 83, 84, 85, 86, 87, 88, 89, 90, 91, 92, 93, 94, 95, 96, 97, 98, 99, 100, 101, 102, 103, 104, 105, 106, 107, 108, 109, 110, 111, 112, 113, 114, 115, 116, 117, 118, 119, 120, 121, 122, 123, 124, 125, 126, 127, 128, 129, 130, 131, 132, 133, 134, 135, 136, 137, 138, 139, 140, 141, 142, 143, 144, 145, 146, 147, 148, 149, 150, 151, 152, 153, 154, 155, 156, 157, 158, 159, 160, 161, 162, 163, 164, 165, 166, 167, 168] (by decide +kernel) (by decide +kernel)) (goodIn_sub (fun _ h => List.mem_cons_of_mem _ (List.mem_append_left _ (List.mem_append_left _ (List.mem_append_right _ h)))) (by decide +kernel))) (goodIn_sub (fun _ h => List.mem_cons_of_mem _ (List.mem_append_left _ (List.mem_append_right _ h))) (by decide +kernel))) (goodIn_sub (fun _ h => List.mem_cons_of_mem _ (List.mem_append_right _ h)) (by decide +kernel))
set_option maxRecDepth 20000 in
theorem gL_quotas_X7_setQuota : GoodIn wsL_quotas (wsV RL 28 RX7 yX7_setQuota wsX7_setQuota) := goodIn_app (goodIn_of _ (by decide +kernel)) ggL_quotas_X7_setQuota
theorem dL_quotas_0 : decode cL_quotas 0 = .ok (.aload_n 0, 1) := by decide +kernel
theorem dL_quotas_1 : decode cL_quotas 1 = .ok (.iload_n 1, 1) := by decide +kernel
theorem dL_quotas_2 : decode cL_quotas 2 = .ok (.invokevirtual 28, 3) := by decide +kernel
theorem dL_quotas_5 : decode cL_quotas 5 = .ok (.ireturn, 1) := by decide +kernel
theorem dL_quotas_6 : decode cL_quotas 6 = .ok (.astore_n 2, 1) := by decide +kernel
theorem dL_quotas_7 : decode cL_quotas 7 = .ok (.ldc 17, 2) := by decide +kernel
theorem dL_quotas_9 : decode cL_quotas 9 = .ok (.ireturn, 1) := by decide +kernel
set_option maxRecDepth 20000 in
theorem ggL_follows_X7_follow : GoodIn wsL_follows wsX7_follow := goodIn_ca (goodIn_ca (goodIn_ca (goodIn_r _ [11, 12, 13, 14, 15, 10, 16, 17, 18, 19, 20, 21, 22, 23, 24, 25, 26, 27, 28, 29, 30, 31, 32, 33, 34, 35, 36, 37, 38, 39, 40, 41, 42, 43, 44, 45, 46, 47, 48, 49, 50, 51, 52, 53, 54, 55, 56, 57, 58, 59, 60, 61, 62, 63, 64, 65, 66, 67, 68, 69, 70, 71, 72, 73, 74, 75, 76, 77, 78, 79, 80, 81, 82, 83, 84, 85, 86, 87, 88, 89, 90, 91, 92, 93, 94, 95, 96, 97, 98, 99, 100, 101, 102, 103, 104, 105, 106, 107, 108, 109, 110, 111, 112, 113, 114, 115, 116, 117, 118, 119, 120, 121, 122, 123, 124, 125, 126, 127, 128, 129, 130, 131, 132, 133, 134, 135, 136, 137, 138, 139, 140, 141, 142, 143, 144, 145, 146, 147, 148, 149, 150, 151, 152, 153, 154, 155, 156, 157, 158, 159, 160, 161, 162, 163, 164, 165, 166, 167, 168, 169, 170, 171, 172] (by decide +kernel) (by decide +kernel)) (goodIn_sub (fun _ h => List.mem_cons_of_mem _ (List.mem_append_left _ (List.mem_append_left _ (List.mem_append_right _ h)))) (by decide +kernel))) (goodIn_sub (fun _ h => List.mem_cons_of_mem _ (List.mem_append_left _ (List.mem_append_right _ h))) (by decide +kernel))) (goodIn_sub (fun _ h => List.mem_cons_of_mem _ (List.mem_append_right _ h)) (by decide +kernel))
set_option maxRecDepth 20000 in
theorem gL_follows_X7_follow : GoodIn wsL_follows (wsV RL 31 RX7 yX7_follow wsX7_follow) := goodIn_app (goodIn_of _ (by decide +kernel)) ggL_follows_X7_follow
theorem dL_follows_0 : decode cL_follows 0 = .ok (.aload_n 0, 1) := by decide +kernel
theorem dL_follows_1 : decode cL_follows 1 = .ok (.iload_n 1, 1) := by decide +kernel
theorem dL_follows_2 : decode cL_follows 2 = .ok (.iload_n 2, 1) := by decide +kernel
theorem dL_follows_3 : decode cL_follows 3 = .ok (.invokevirtual 31, 3) := by decide +kernel
theorem dL_follows_6 : decode cL_follows 6 = .ok (.ireturn, 1) := by decide +kernel
theorem dL_follows_7 : decode cL_follows 7 = .ok (.astore_n 3, 1) := by decide +kernel
theorem dL_follows_8 : decode cL_follows 8 = .ok (.ldc 27, 2) := by decide +kernel
theorem dL_follows_10 : decode cL_follows 10 = .ok (.ireturn, 1) := by decide +kernel
theorem dL_follows_11 : decode cL_follows 11 = .ok (.astore_n 3, 1) := by decide +kernel
theorem dL_follows_12 : decode cL_follows 12 = .ok (.ldc 17, 2) := by decide +kernel
theorem dL_follows_14 : decode cL_follows 14 = .ok (.ireturn, 1) := by decide +kernel
theorem dL_follows_15 : decode cL_follows 15 = .ok (.astore_n 3, 1) := by decide +kernel
theorem dL_follows_16 : decode cL_follows 16 = .ok (.ldc 20, 2) := by decide +kernel
theorem dL_follows_18 : decode cL_follows 18 = .ok (.ireturn, 1) := by decide +kernel
set_option maxRecDepth 20000 in
theorem ggL_leaves_X7_leave : GoodIn wsL_leaves wsX7_leave := goodIn_ca (goodIn_ca (goodIn_ca (goodIn_r _ [9, 10, 11, 12, 13, 8, 14, 15, 16, 17, 18, 19, 20, 21, 22, 23, 24, 25, 26, 27, 28, 29, 30, 31, 32, 33, 34, 35, 36, 37, 38, 39, 40, 41, 42, 43, 44, 45, 46, 47, 48, 49, 50, 51, 52, 53, 54, 55, 56, 57, 58, 59, 60, 61, 62, 63, 64, 65, 66, 67, 68, 69, 70, 71, 72, 73, 74, 75, 76, 77, 78, 79, 80, 81, 82, 83, 84, 85, 86, 87, 88, 89, 90, 91, 92, 93, 94, 95, 96, 97, 98, 99, 100, 101, 102, 103, 104, 105, 106, 107, 108, 109, 110, 111, 112, 113, 114, 115, 116, 117, 118, 119, 120, 121, 122, 123, 124, 125, 126, 127, 128, 129, 130, 131, 132, 133, 134, 135, 136, 137, 138, 139, 140, 141, 142, 143, 144, 145, 146, 147, 148, 149, 150, 151, 152, 153, 154, 155, 156, 157, 158, 159, 160, 161, 162, 163, 164, 165, 166, 167, 168, 169, 170] (by decide +kernel) (by decide +kernel)) (goodIn_sub (fun _ h => List.mem_cons_of_mem _ (List.mem_append_left _ (List.mem_append_left _ (List.mem_append_right _ h)))) (by decide +kernel))) (goodIn_sub (fun _ h => List.mem_cons_of_mem _ (List.mem_append_left _ (List.mem_append_right _ h))) (by decide +kernel))) (goodIn_sub (fun _ h => List.mem_cons_of_mem _ (List.mem_append_right _ h)) (by decide +kernel))
set_option maxRecDepth 20000 in
theorem gL_leaves_X7_leave : GoodIn wsL_leaves (wsV RL 34 RX7 yX7_leave wsX7_leave) := goodIn_app (goodIn_of _ (by decide +kernel)) ggL_leaves_X7_leave
theorem dL_leaves_0 : decode cL_leaves 0 = .ok (.aload_n 0, 1) := by decide +kernel
theorem dL_leaves_1 : decode cL_leaves 1 = .ok (.iload_n 1, 1) := by decide +kernel
theorem dL_leaves_2 : decode cL_leaves 2 = .ok (.invokevirtual 34, 3) := by decide +kernel
theorem dL_leaves_5 : decode cL_leaves 5 = .ok (.ireturn, 1) := by decide +kernel
theorem dL_leaves_6 : decode cL_leaves 6 = .ok (.astore_n 2, 1) := by decide +kernel
theorem dL_leaves_7 : decode cL_leaves 7 = .ok (.ldc 27, 2) := by decide +kernel
theorem dL_leaves_9 : decode cL_leaves 9 = .ok (.ireturn, 1) := by decide +kernel
theorem dL_leaves_10 : decode cL_leaves 10 = .ok (.astore_n 2, 1) := by decide +kernel
theorem dL_leaves_11 : decode cL_leaves 11 = .ok (.ldc 20, 2) := by decide +kernel
theorem dL_leaves_13 : decode cL_leaves 13 = .ok (.ireturn, 1) := by decide +kernel
set_option maxRecDepth 20000 in
theorem ggL_rules_X7_addRule : GoodIn wsL_rules wsX7_addRule := goodIn_ca (goodIn_ca (goodIn_ca (goodIn_r _ [9, 10, 11, 12, 13, 8, 14, 15, 16, 17, 18, 19, 20, 21, 22, 23, 24, 25, 26, 27, 28, 29, 30, 31, 32, 33, 34, 35, 36, 37, 38, 39, 40, 41, 42, 43, 44, 45, 46, 47, 48, 49, 50, 51, 52, 53, 54, 55, 56, 57, 58, 59, 60, 61, 62, 63, 64, 65, 66, 67, 68, 69, 70, 71, 72, 73, 74, 75, 76, 77, 78, 79, 80, 81, 82, 83, 84, 85, 86, 87, 88, 89, 90, 91, 92, 93, 94, 95, 96, 97, 98, 99, 100, 101, 102, 103, 104, 105, 106, 107, 108, 109, 110, 111, 112, 113, 114, 115, 116, 117, 118, 119, 120, 121, 122, 123, 124, 125, 126, 127, 128, 129, 130, 131, 132, 133, 134, 135, 136, 137, 138, 139, 140, 141, 142, 143, 144, 145, 146, 147, 148, 149, 150, 151, 152, 153, 154, 155, 156, 157, 158, 159, 160, 161, 162, 163, 164, 165, 166, 167, 168, 169, 170] (by decide +kernel) (by decide +kernel)) (goodIn_sub (fun _ h => List.mem_cons_of_mem _ (List.mem_append_left _ (List.mem_append_left _ (List.mem_append_right _ h)))) (by decide +kernel))) (goodIn_sub (fun _ h => List.mem_cons_of_mem _ (List.mem_append_left _ (List.mem_append_right _ h))) (by decide +kernel))) (goodIn_sub (fun _ h => List.mem_cons_of_mem _ (List.mem_append_right _ h)) (by decide +kernel))
set_option maxRecDepth 20000 in
theorem gL_rules_X7_addRule : GoodIn wsL_rules (wsV RL 37 RX7 yX7_addRule wsX7_addRule) := goodIn_app (goodIn_of _ (by decide +kernel)) ggL_rules_X7_addRule
theorem dL_rules_0 : decode cL_rules 0 = .ok (.aload_n 0, 1) := by decide +kernel
theorem dL_rules_1 : decode cL_rules 1 = .ok (.iload_n 1, 1) := by decide +kernel
theorem dL_rules_2 : decode cL_rules 2 = .ok (.iload_n 2, 1) := by decide +kernel
theorem dL_rules_3 : decode cL_rules 3 = .ok (.invokevirtual 37, 3) := by decide +kernel
theorem dL_rules_6 : decode cL_rules 6 = .ok (.ireturn, 1) := by decide +kernel
theorem dL_rules_7 : decode cL_rules 7 = .ok (.astore_n 3, 1) := by decide +kernel
theorem dL_rules_8 : decode cL_rules 8 = .ok (.ldc 17, 2) := by decide +kernel
theorem dL_rules_10 : decode cL_rules 10 = .ok (.ireturn, 1) := by decide +kernel
theorem dL_rules_11 : decode cL_rules 11 = .ok (.astore_n 3, 1) := by decide +kernel
theorem dL_rules_12 : decode cL_rules 12 = .ok (.ldc 20, 2) := by decide +kernel
theorem dL_rules_14 : decode cL_rules 14 = .ok (.ireturn, 1) := by decide +kernel
set_option maxRecDepth 20000 in
theorem ggL_drops_X7_dropRule : GoodIn wsL_drops wsX7_dropRule := goodIn_ca (goodIn_ca (goodIn_ca (goodIn_r _ [7, 8, 9, 10, 11, 6, 12, 13, 14, 15, 16, 17, 18, 19, 20, 21, 22, 23, 24, 25, 26, 27, 28, 29, 30, 31, 32, 33, 34, 35, 36, 37, 38, 39, 40, 41, 42, 43, 44, 45, 46, 47, 48, 49, 50, 51, 52, 53, 54, 55, 56, 57, 58, 59, 60, 61, 62, 63, 64, 65, 66, 67, 68, 69, 70, 71, 72, 73, 74, 75, 76, 77, 78, 79, 80, 81, 82, 83, 84, 85, 86, 87, 88, 89, 90, 91, 92, 93, 94, 95, 96, 97, 98, 99, 100, 101, 102, 103, 104, 105, 106, 107, 108, 109, 110, 111, 112, 113, 114, 115, 116, 117, 118, 119, 120, 121, 122, 123, 124, 125, 126, 127, 128, 129, 130, 131, 132, 133, 134, 135, 136, 137, 138, 139, 140, 141, 142, 143, 144, 145, 146, 147, 148, 149, 150, 151, 152, 153, 154, 155, 156, 157, 158, 159, 160, 161, 162, 163, 164, 165, 166, 167, 168] (by decide +kernel) (by decide +kernel)) (goodIn_sub (fun _ h => List.mem_cons_of_mem _ (List.mem_append_left _ (List.mem_append_left _ (List.mem_append_right _ h)))) (by decide +kernel))) (goodIn_sub (fun _ h => List.mem_cons_of_mem _ (List.mem_append_left _ (List.mem_append_right _ h))) (by decide +kernel))) (goodIn_sub (fun _ h => List.mem_cons_of_mem _ (List.mem_append_right _ h)) (by decide +kernel))
set_option maxRecDepth 20000 in
theorem gL_drops_X7_dropRule : GoodIn wsL_drops (wsV RL 40 RX7 yX7_dropRule wsX7_dropRule) := goodIn_app (goodIn_of _ (by decide +kernel)) ggL_drops_X7_dropRule
theorem dL_drops_0 : decode cL_drops 0 = .ok (.aload_n 0, 1) := by decide +kernel
theorem dL_drops_1 : decode cL_drops 1 = .ok (.iload_n 1, 1) := by decide +kernel
theorem dL_drops_2 : decode cL_drops 2 = .ok (.invokevirtual 40, 3) := by decide +kernel
theorem dL_drops_5 : decode cL_drops 5 = .ok (.ireturn, 1) := by decide +kernel
theorem dL_drops_6 : decode cL_drops 6 = .ok (.astore_n 2, 1) := by decide +kernel
theorem dL_drops_7 : decode cL_drops 7 = .ok (.ldc 27, 2) := by decide +kernel
theorem dL_drops_9 : decode cL_drops 9 = .ok (.ireturn, 1) := by decide +kernel
theorem dL_why_0 : decode cL_why 0 = .ok (.iconst 0, 1) := by decide +kernel
theorem dL_why_1 : decode cL_why 1 = .ok (.istore 6, 2) := by decide +kernel
theorem dL_why_3 : decode cL_why 3 = .ok (.iconst 0, 1) := by decide +kernel
theorem dL_why_4 : decode cL_why 4 = .ok (.istore 7, 2) := by decide +kernel
theorem dL_why_6 : decode cL_why 6 = .ok (.iconst 0, 1) := by decide +kernel
theorem dL_why_7 : decode cL_why 7 = .ok (.istore 8, 2) := by decide +kernel
theorem dL_why_9 : decode cL_why 9 = .ok (.iconst 0, 1) := by decide +kernel
theorem dL_why_10 : decode cL_why 10 = .ok (.istore 9, 2) := by decide +kernel
theorem dL_why_12 : decode cL_why 12 = .ok (.iload 9, 2) := by decide +kernel
theorem dL_why_14 : decode cL_why 14 = .ok (.aload_n 0, 1) := by decide +kernel
theorem dL_why_15 : decode cL_why 15 = .ok (.iconst 0, 1) := by decide +kernel
theorem dL_why_16 : decode cL_why 16 = .ok (.iaload, 1) := by decide +kernel
theorem dL_why_17 : decode cL_why 17 = .ok (.if_icmp .ge 66, 3) := by decide +kernel
theorem dL_why_20 : decode cL_why 20 = .ok (.aload_n 2, 1) := by decide +kernel
theorem dL_why_21 : decode cL_why 21 = .ok (.iload 9, 2) := by decide +kernel
theorem dL_why_23 : decode cL_why 23 = .ok (.iaload, 1) := by decide +kernel
theorem dL_why_24 : decode cL_why 24 = .ok (.ifCond .ge 8, 3) := by decide +kernel
theorem dL_why_27 : decode cL_why 27 = .ok (.iload 9, 2) := by decide +kernel
theorem dL_why_29 : decode cL_why 29 = .ok (.goto 7, 3) := by decide +kernel
theorem dL_why_32 : decode cL_why 32 = .ok (.aload_n 2, 1) := by decide +kernel
theorem dL_why_33 : decode cL_why 33 = .ok (.iload 9, 2) := by decide +kernel
theorem dL_why_35 : decode cL_why 35 = .ok (.iaload, 1) := by decide +kernel
theorem dL_why_36 : decode cL_why 36 = .ok (.istore 10, 2) := by decide +kernel
theorem dL_why_38 : decode cL_why 38 = .ok (.iload 4, 2) := by decide +kernel
theorem dL_why_40 : decode cL_why 40 = .ok (.iload 10, 2) := by decide +kernel
theorem dL_why_42 : decode cL_why 42 = .ok (.ishr, 1) := by decide +kernel
theorem dL_why_43 : decode cL_why 43 = .ok (.iconst 1, 1) := by decide +kernel
theorem dL_why_44 : decode cL_why 44 = .ok (.iand, 1) := by decide +kernel
theorem dL_why_45 : decode cL_why 45 = .ok (.iconst 1, 1) := by decide +kernel
theorem dL_why_46 : decode cL_why 46 = .ok (.if_icmp .ne 31, 3) := by decide +kernel
theorem dL_why_49 : decode cL_why 49 = .ok (.aload_n 2, 1) := by decide +kernel
theorem dL_why_50 : decode cL_why 50 = .ok (.iload 10, 2) := by decide +kernel
theorem dL_why_52 : decode cL_why 52 = .ok (.iaload, 1) := by decide +kernel
theorem dL_why_53 : decode cL_why 53 = .ok (.ifCond .ge 24, 3) := by decide +kernel
theorem dL_why_56 : decode cL_why 56 = .ok (.iload 6, 2) := by decide +kernel
theorem dL_why_58 : decode cL_why 58 = .ok (.aload_n 1, 1) := by decide +kernel
theorem dL_why_59 : decode cL_why 59 = .ok (.iload 9, 2) := by decide +kernel
theorem dL_why_61 : decode cL_why 61 = .ok (.iaload, 1) := by decide +kernel
theorem dL_why_62 : decode cL_why 62 = .ok (.iadd, 1) := by decide +kernel
theorem dL_why_63 : decode cL_why 63 = .ok (.istore 6, 2) := by decide +kernel
theorem dL_why_65 : decode cL_why 65 = .ok (.iload 7, 2) := by decide +kernel
theorem dL_why_67 : decode cL_why 67 = .ok (.iconst 1, 1) := by decide +kernel
theorem dL_why_68 : decode cL_why 68 = .ok (.iload 9, 2) := by decide +kernel
theorem dL_why_70 : decode cL_why 70 = .ok (.ishl, 1) := by decide +kernel
theorem dL_why_71 : decode cL_why 71 = .ok (.ior, 1) := by decide +kernel
theorem dL_why_72 : decode cL_why 72 = .ok (.istore 7, 2) := by decide +kernel
theorem dL_why_74 : decode cL_why 74 = .ok (.iinc 8 1, 3) := by decide +kernel
theorem dL_why_77 : decode cL_why 77 = .ok (.iinc 9 1, 3) := by decide +kernel
theorem dL_why_80 : decode cL_why 80 = .ok (.goto (-68), 3) := by decide +kernel
theorem dL_why_83 : decode cL_why 83 = .ok (.iload 6, 2) := by decide +kernel
theorem dL_why_85 : decode cL_why 85 = .ok (.iload 5, 2) := by decide +kernel
theorem dL_why_87 : decode cL_why 87 = .ok (.if_icmp .ge 5, 3) := by decide +kernel
theorem dL_why_90 : decode cL_why 90 = .ok (.iconst 1, 1) := by decide +kernel
theorem dL_why_91 : decode cL_why 91 = .ok (.ireturn, 1) := by decide +kernel
theorem dL_why_92 : decode cL_why 92 = .ok (.iconst 0, 1) := by decide +kernel
theorem dL_why_93 : decode cL_why 93 = .ok (.istore 9, 2) := by decide +kernel
theorem dL_why_95 : decode cL_why 95 = .ok (.iload 9, 2) := by decide +kernel
theorem dL_why_97 : decode cL_why 97 = .ok (.aload_n 0, 1) := by decide +kernel
theorem dL_why_98 : decode cL_why 98 = .ok (.iconst 2, 1) := by decide +kernel
theorem dL_why_99 : decode cL_why 99 = .ok (.iaload, 1) := by decide +kernel
theorem dL_why_100 : decode cL_why 100 = .ok (.if_icmp .ge 98, 3) := by decide +kernel
theorem dL_why_103 : decode cL_why 103 = .ok (.aload_n 3, 1) := by decide +kernel
theorem dL_why_104 : decode cL_why 104 = .ok (.iload 9, 2) := by decide +kernel
theorem dL_why_106 : decode cL_why 106 = .ok (.iaload, 1) := by decide +kernel
theorem dL_why_107 : decode cL_why 107 = .ok (.sipush 1000, 3) := by decide +kernel
theorem dL_why_110 : decode cL_why 110 = .ok (.irem, 1) := by decide +kernel
theorem dL_why_111 : decode cL_why 111 = .ok (.istore 10, 2) := by decide +kernel
theorem dL_why_113 : decode cL_why 113 = .ok (.aload_n 3, 1) := by decide +kernel
theorem dL_why_114 : decode cL_why 114 = .ok (.iload 9, 2) := by decide +kernel
theorem dL_why_116 : decode cL_why 116 = .ok (.iaload, 1) := by decide +kernel
theorem dL_why_117 : decode cL_why 117 = .ok (.sipush 1000, 3) := by decide +kernel
theorem dL_why_120 : decode cL_why 120 = .ok (.if_icmp .ge 18, 3) := by decide +kernel
theorem dL_why_123 : decode cL_why 123 = .ok (.iload 8, 2) := by decide +kernel
theorem dL_why_125 : decode cL_why 125 = .ok (.iload 10, 2) := by decide +kernel
theorem dL_why_127 : decode cL_why 127 = .ok (.if_icmp .lt 7, 3) := by decide +kernel
theorem dL_why_130 : decode cL_why 130 = .ok (.iconst 1, 1) := by decide +kernel
theorem dL_why_131 : decode cL_why 131 = .ok (.goto 49, 3) := by decide +kernel
theorem dL_why_134 : decode cL_why 134 = .ok (.iconst 0, 1) := by decide +kernel
theorem dL_why_135 : decode cL_why 135 = .ok (.goto 45, 3) := by decide +kernel
theorem dL_why_138 : decode cL_why 138 = .ok (.aload_n 3, 1) := by decide +kernel
theorem dL_why_139 : decode cL_why 139 = .ok (.iload 9, 2) := by decide +kernel
theorem dL_why_141 : decode cL_why 141 = .ok (.iaload, 1) := by decide +kernel
theorem dL_why_142 : decode cL_why 142 = .ok (.sipush 2000, 3) := by decide +kernel
theorem dL_why_145 : decode cL_why 145 = .ok (.if_icmp .ge 22, 3) := by decide +kernel
theorem dL_why_148 : decode cL_why 148 = .ok (.iload 7, 2) := by decide +kernel
theorem dL_why_150 : decode cL_why 150 = .ok (.iload 10, 2) := by decide +kernel
theorem dL_why_152 : decode cL_why 152 = .ok (.ishr, 1) := by decide +kernel
theorem dL_why_153 : decode cL_why 153 = .ok (.iconst 1, 1) := by decide +kernel
theorem dL_why_154 : decode cL_why 154 = .ok (.iand, 1) := by decide +kernel
theorem dL_why_155 : decode cL_why 155 = .ok (.iconst 1, 1) := by decide +kernel
theorem dL_why_156 : decode cL_why 156 = .ok (.if_icmp .ne 7, 3) := by decide +kernel
theorem dL_why_159 : decode cL_why 159 = .ok (.iconst 1, 1) := by decide +kernel
theorem dL_why_160 : decode cL_why 160 = .ok (.goto 20, 3) := by decide +kernel
theorem dL_why_163 : decode cL_why 163 = .ok (.iconst 0, 1) := by decide +kernel
theorem dL_why_164 : decode cL_why 164 = .ok (.goto 16, 3) := by decide +kernel
theorem dL_why_167 : decode cL_why 167 = .ok (.iload 7, 2) := by decide +kernel
theorem dL_why_169 : decode cL_why 169 = .ok (.iload 10, 2) := by decide +kernel
theorem dL_why_171 : decode cL_why 171 = .ok (.iand, 1) := by decide +kernel
theorem dL_why_172 : decode cL_why 172 = .ok (.ifCond .le 7, 3) := by decide +kernel
theorem dL_why_175 : decode cL_why 175 = .ok (.iconst 1, 1) := by decide +kernel
theorem dL_why_176 : decode cL_why 176 = .ok (.goto 4, 3) := by decide +kernel
theorem dL_why_179 : decode cL_why 179 = .ok (.iconst 0, 1) := by decide +kernel
theorem dL_why_180 : decode cL_why 180 = .ok (.istore 11, 2) := by decide +kernel
theorem dL_why_182 : decode cL_why 182 = .ok (.iload 11, 2) := by decide +kernel
theorem dL_why_184 : decode cL_why 184 = .ok (.ifCond .ne 8, 3) := by decide +kernel
theorem dL_why_187 : decode cL_why 187 = .ok (.iload 9, 2) := by decide +kernel
theorem dL_why_189 : decode cL_why 189 = .ok (.iconst 2, 1) := by decide +kernel
theorem dL_why_190 : decode cL_why 190 = .ok (.iadd, 1) := by decide +kernel
theorem dL_why_191 : decode cL_why 191 = .ok (.ireturn, 1) := by decide +kernel
theorem dL_why_192 : decode cL_why 192 = .ok (.iinc 9 1, 3) := by decide +kernel
theorem dL_why_195 : decode cL_why 195 = .ok (.goto (-100), 3) := by decide +kernel
theorem dL_why_198 : decode cL_why 198 = .ok (.iconst 0, 1) := by decide +kernel
theorem dL_why_199 : decode cL_why 199 = .ok (.ireturn, 1) := by decide +kernel
theorem dL_players_0 : decode cL_players 0 = .ok (.iconst 0, 1) := by decide +kernel
theorem dL_players_1 : decode cL_players 1 = .ok (.istore_n 2, 1) := by decide +kernel
theorem dL_players_2 : decode cL_players 2 = .ok (.iconst 0, 1) := by decide +kernel
theorem dL_players_3 : decode cL_players 3 = .ok (.istore_n 3, 1) := by decide +kernel
theorem dL_players_4 : decode cL_players 4 = .ok (.iload_n 3, 1) := by decide +kernel
theorem dL_players_5 : decode cL_players 5 = .ok (.aload_n 0, 1) := by decide +kernel
theorem dL_players_6 : decode cL_players 6 = .ok (.iconst 0, 1) := by decide +kernel
theorem dL_players_7 : decode cL_players 7 = .ok (.iaload, 1) := by decide +kernel
theorem dL_players_8 : decode cL_players 8 = .ok (.if_icmp .ge 25, 3) := by decide +kernel
theorem dL_players_11 : decode cL_players 11 = .ok (.iload_n 2, 1) := by decide +kernel
theorem dL_players_12 : decode cL_players 12 = .ok (.aload_n 1, 1) := by decide +kernel
theorem dL_players_13 : decode cL_players 13 = .ok (.iload_n 3, 1) := by decide +kernel
theorem dL_players_14 : decode cL_players 14 = .ok (.iaload, 1) := by decide +kernel
theorem dL_players_15 : decode cL_players 15 = .ok (.ifCond .ge 9, 3) := by decide +kernel
theorem dL_players_18 : decode cL_players 18 = .ok (.iconst 1, 1) := by decide +kernel
theorem dL_players_19 : decode cL_players 19 = .ok (.iload_n 3, 1) := by decide +kernel
theorem dL_players_20 : decode cL_players 20 = .ok (.ishl, 1) := by decide +kernel
theorem dL_players_21 : decode cL_players 21 = .ok (.goto 4, 3) := by decide +kernel
theorem dL_players_24 : decode cL_players 24 = .ok (.iconst 0, 1) := by decide +kernel
theorem dL_players_25 : decode cL_players 25 = .ok (.iadd, 1) := by decide +kernel
theorem dL_players_26 : decode cL_players 26 = .ok (.istore_n 2, 1) := by decide +kernel
theorem dL_players_27 : decode cL_players 27 = .ok (.iinc 3 1, 3) := by decide +kernel
theorem dL_players_30 : decode cL_players 30 = .ok (.goto (-26), 3) := by decide +kernel
theorem dL_players_33 : decode cL_players 33 = .ok (.iload_n 2, 1) := by decide +kernel
theorem dL_players_34 : decode cL_players 34 = .ok (.ireturn, 1) := by decide +kernel
set_option maxRecDepth 20000 in
theorem ggL_table_L_players : GoodIn wsL_table wsL_players := goodIn_r _ [5] (by decide +kernel) (by decide +kernel)
set_option maxRecDepth 20000 in
theorem gL_table_L_players : GoodIn wsL_table (va_wsS RL 43 yL_players wsL_players) := goodIn_app (goodIn_of _ (by decide +kernel)) ggL_table_L_players
set_option maxRecDepth 20000 in
theorem ggL_table_L_why : GoodIn wsL_table wsL_why := goodIn_r _ [8] (by decide +kernel) (by decide +kernel)
set_option maxRecDepth 20000 in
theorem gL_table_L_why : GoodIn wsL_table (va_wsS RL 49 yL_why wsL_why) := goodIn_app (goodIn_of _ (by decide +kernel)) ggL_table_L_why
theorem dL_table_0 : decode cL_table 0 = .ok (.iconst 4, 1) := by decide +kernel
theorem dL_table_1 : decode cL_table 1 = .ok (.newarray .long, 2) := by decide +kernel
theorem dL_table_3 : decode cL_table 3 = .ok (.astore 5, 2) := by decide +kernel
theorem dL_table_5 : decode cL_table 5 = .ok (.aload_n 0, 1) := by decide +kernel
theorem dL_table_6 : decode cL_table 6 = .ok (.aload_n 2, 1) := by decide +kernel
theorem dL_table_7 : decode cL_table 7 = .ok (.invokestatic 43, 3) := by decide +kernel
theorem dL_table_10 : decode cL_table 10 = .ok (.istore 6, 2) := by decide +kernel
theorem dL_table_12 : decode cL_table 12 = .ok (.iconst 0, 1) := by decide +kernel
theorem dL_table_13 : decode cL_table 13 = .ok (.istore 7, 2) := by decide +kernel
theorem dL_table_15 : decode cL_table 15 = .ok (.iload 7, 2) := by decide +kernel
theorem dL_table_17 : decode cL_table 17 = .ok (.sipush 256, 3) := by decide +kernel
theorem dL_table_20 : decode cL_table 20 = .ok (.if_icmp .ge 67, 3) := by decide +kernel
theorem dL_table_23 : decode cL_table 23 = .ok (.iload 7, 2) := by decide +kernel
theorem dL_table_25 : decode cL_table 25 = .ok (.iload 6, 2) := by decide +kernel
theorem dL_table_27 : decode cL_table 27 = .ok (.ior, 1) := by decide +kernel
theorem dL_table_28 : decode cL_table 28 = .ok (.iload 6, 2) := by decide +kernel
theorem dL_table_30 : decode cL_table 30 = .ok (.if_icmp .ne 21, 3) := by decide +kernel
theorem dL_table_33 : decode cL_table 33 = .ok (.aload_n 0, 1) := by decide +kernel
theorem dL_table_34 : decode cL_table 34 = .ok (.aload_n 1, 1) := by decide +kernel
theorem dL_table_35 : decode cL_table 35 = .ok (.aload_n 2, 1) := by decide +kernel
theorem dL_table_36 : decode cL_table 36 = .ok (.aload_n 3, 1) := by decide +kernel
theorem dL_table_37 : decode cL_table 37 = .ok (.iload 7, 2) := by decide +kernel
theorem dL_table_39 : decode cL_table 39 = .ok (.iload 4, 2) := by decide +kernel
theorem dL_table_41 : decode cL_table 41 = .ok (.invokestatic 49, 3) := by decide +kernel
theorem dL_table_44 : decode cL_table 44 = .ok (.ifCond .ne 7, 3) := by decide +kernel
theorem dL_table_47 : decode cL_table 47 = .ok (.iconst 1, 1) := by decide +kernel
theorem dL_table_48 : decode cL_table 48 = .ok (.goto 4, 3) := by decide +kernel
theorem dL_table_51 : decode cL_table 51 = .ok (.iconst 0, 1) := by decide +kernel
theorem dL_table_52 : decode cL_table 52 = .ok (.istore 8, 2) := by decide +kernel
theorem dL_table_54 : decode cL_table 54 = .ok (.aload 5, 2) := by decide +kernel
theorem dL_table_56 : decode cL_table 56 = .ok (.iload 7, 2) := by decide +kernel
theorem dL_table_58 : decode cL_table 58 = .ok (.bipush 6, 2) := by decide +kernel
theorem dL_table_60 : decode cL_table 60 = .ok (.ishr, 1) := by decide +kernel
theorem dL_table_61 : decode cL_table 61 = .ok (.dup2, 1) := by decide +kernel
theorem dL_table_62 : decode cL_table 62 = .ok (.laload, 1) := by decide +kernel
theorem dL_table_63 : decode cL_table 63 = .ok (.iload 8, 2) := by decide +kernel
theorem dL_table_65 : decode cL_table 65 = .ok (.ifCond .eq 13, 3) := by decide +kernel
theorem dL_table_68 : decode cL_table 68 = .ok (.lconst 1, 1) := by decide +kernel
theorem dL_table_69 : decode cL_table 69 = .ok (.iload 7, 2) := by decide +kernel
theorem dL_table_71 : decode cL_table 71 = .ok (.bipush 63, 2) := by decide +kernel
theorem dL_table_73 : decode cL_table 73 = .ok (.iand, 1) := by decide +kernel
theorem dL_table_74 : decode cL_table 74 = .ok (.lshl, 1) := by decide +kernel
theorem dL_table_75 : decode cL_table 75 = .ok (.goto 4, 3) := by decide +kernel
theorem dL_table_78 : decode cL_table 78 = .ok (.lconst 0, 1) := by decide +kernel
theorem dL_table_79 : decode cL_table 79 = .ok (.lor, 1) := by decide +kernel
theorem dL_table_80 : decode cL_table 80 = .ok (.lastore, 1) := by decide +kernel
theorem dL_table_81 : decode cL_table 81 = .ok (.iinc 7 1, 3) := by decide +kernel
theorem dL_table_84 : decode cL_table 84 = .ok (.goto (-69), 3) := by decide +kernel
theorem dL_table_87 : decode cL_table 87 = .ok (.aload 5, 2) := by decide +kernel
theorem dL_table_89 : decode cL_table 89 = .ok (.areturn, 1) := by decide +kernel
theorem dL_at_0 : decode cL_at 0 = .ok (.aload_n 0, 1) := by decide +kernel
theorem dL_at_1 : decode cL_at 1 = .ok (.iload_n 1, 1) := by decide +kernel
theorem dL_at_2 : decode cL_at 2 = .ok (.bipush 6, 2) := by decide +kernel
theorem dL_at_4 : decode cL_at 4 = .ok (.ishr, 1) := by decide +kernel
theorem dL_at_5 : decode cL_at 5 = .ok (.laload, 1) := by decide +kernel
theorem dL_at_6 : decode cL_at 6 = .ok (.iload_n 1, 1) := by decide +kernel
theorem dL_at_7 : decode cL_at 7 = .ok (.bipush 63, 2) := by decide +kernel
theorem dL_at_9 : decode cL_at 9 = .ok (.iand, 1) := by decide +kernel
theorem dL_at_10 : decode cL_at 10 = .ok (.lshr, 1) := by decide +kernel
theorem dL_at_11 : decode cL_at 11 = .ok (.lconst 1, 1) := by decide +kernel
theorem dL_at_12 : decode cL_at 12 = .ok (.land, 1) := by decide +kernel
theorem dL_at_13 : decode cL_at 13 = .ok (.lconst 1, 1) := by decide +kernel
theorem dL_at_14 : decode cL_at 14 = .ok (.lcmp, 1) := by decide +kernel
theorem dL_at_15 : decode cL_at 15 = .ok (.ifCond .ne 7, 3) := by decide +kernel
theorem dL_at_18 : decode cL_at 18 = .ok (.iconst 1, 1) := by decide +kernel
theorem dL_at_19 : decode cL_at 19 = .ok (.goto 4, 3) := by decide +kernel
theorem dL_at_22 : decode cL_at 22 = .ok (.iconst 0, 1) := by decide +kernel
theorem dL_at_23 : decode cL_at 23 = .ok (.ireturn, 1) := by decide +kernel
set_option maxRecDepth 20000 in
theorem ggL_swings_L_at : GoodIn wsL_swings wsL_at := goodIn_r _ [4] (by decide +kernel) (by decide +kernel)
set_option maxRecDepth 20000 in
theorem gL_swings_L_at : GoodIn wsL_swings (va_wsS RL 53 yL_at wsL_at) := goodIn_app (goodIn_of _ (by decide +kernel)) ggL_swings_L_at
theorem dL_swings_0 : decode cL_swings 0 = .ok (.iconst 0, 1) := by decide +kernel
theorem dL_swings_1 : decode cL_swings 1 = .ok (.istore_n 2, 1) := by decide +kernel
theorem dL_swings_2 : decode cL_swings 2 = .ok (.iconst 0, 1) := by decide +kernel
theorem dL_swings_3 : decode cL_swings 3 = .ok (.istore_n 3, 1) := by decide +kernel
theorem dL_swings_4 : decode cL_swings 4 = .ok (.iload_n 3, 1) := by decide +kernel
theorem dL_swings_5 : decode cL_swings 5 = .ok (.sipush 256, 3) := by decide +kernel
theorem dL_swings_8 : decode cL_swings 8 = .ok (.if_icmp .ge 45, 3) := by decide +kernel
theorem dL_swings_11 : decode cL_swings 11 = .ok (.iload_n 2, 1) := by decide +kernel
theorem dL_swings_12 : decode cL_swings 12 = .ok (.iload_n 3, 1) := by decide +kernel
theorem dL_swings_13 : decode cL_swings 13 = .ok (.iload_n 1, 1) := by decide +kernel
theorem dL_swings_14 : decode cL_swings 14 = .ok (.ishr, 1) := by decide +kernel
theorem dL_swings_15 : decode cL_swings 15 = .ok (.iconst 1, 1) := by decide +kernel
theorem dL_swings_16 : decode cL_swings 16 = .ok (.iand, 1) := by decide +kernel
theorem dL_swings_17 : decode cL_swings 17 = .ok (.ifCond .ne 27, 3) := by decide +kernel
theorem dL_swings_20 : decode cL_swings 20 = .ok (.aload_n 0, 1) := by decide +kernel
theorem dL_swings_21 : decode cL_swings 21 = .ok (.iload_n 3, 1) := by decide +kernel
theorem dL_swings_22 : decode cL_swings 22 = .ok (.iconst 1, 1) := by decide +kernel
theorem dL_swings_23 : decode cL_swings 23 = .ok (.iload_n 1, 1) := by decide +kernel
theorem dL_swings_24 : decode cL_swings 24 = .ok (.ishl, 1) := by decide +kernel
theorem dL_swings_25 : decode cL_swings 25 = .ok (.iadd, 1) := by decide +kernel
theorem dL_swings_26 : decode cL_swings 26 = .ok (.invokestatic 53, 3) := by decide +kernel
theorem dL_swings_29 : decode cL_swings 29 = .ok (.ifCond .eq 15, 3) := by decide +kernel
theorem dL_swings_32 : decode cL_swings 32 = .ok (.aload_n 0, 1) := by decide +kernel
theorem dL_swings_33 : decode cL_swings 33 = .ok (.iload_n 3, 1) := by decide +kernel
theorem dL_swings_34 : decode cL_swings 34 = .ok (.invokestatic 53, 3) := by decide +kernel
theorem dL_swings_37 : decode cL_swings 37 = .ok (.ifCond .ne 7, 3) := by decide +kernel
theorem dL_swings_40 : decode cL_swings 40 = .ok (.iconst 1, 1) := by decide +kernel
theorem dL_swings_41 : decode cL_swings 41 = .ok (.goto 4, 3) := by decide +kernel
theorem dL_swings_44 : decode cL_swings 44 = .ok (.iconst 0, 1) := by decide +kernel
theorem dL_swings_45 : decode cL_swings 45 = .ok (.iadd, 1) := by decide +kernel
theorem dL_swings_46 : decode cL_swings 46 = .ok (.istore_n 2, 1) := by decide +kernel
theorem dL_swings_47 : decode cL_swings 47 = .ok (.iinc 3 1, 3) := by decide +kernel
theorem dL_swings_50 : decode cL_swings 50 = .ok (.goto (-46), 3) := by decide +kernel
theorem dL_swings_53 : decode cL_swings 53 = .ok (.iload_n 2, 1) := by decide +kernel
theorem dL_swings_54 : decode cL_swings 54 = .ok (.ireturn, 1) := by decide +kernel
set_option maxRecDepth 20000 in
theorem ggL_sum_L_swings : GoodIn wsL_sum wsL_swings := goodIn_r _ [4, 5, 6, 3, 7] (by decide +kernel) (by decide +kernel)
set_option maxRecDepth 20000 in
theorem gL_sum_L_swings : GoodIn wsL_sum (va_wsS RL 57 yL_swings wsL_swings) := goodIn_app (goodIn_of _ (by decide +kernel)) ggL_sum_L_swings
theorem dL_sum_0 : decode cL_sum 0 = .ok (.iconst 0, 1) := by decide +kernel
theorem dL_sum_1 : decode cL_sum 1 = .ok (.istore_n 1, 1) := by decide +kernel
theorem dL_sum_2 : decode cL_sum 2 = .ok (.iconst 0, 1) := by decide +kernel
theorem dL_sum_3 : decode cL_sum 3 = .ok (.istore_n 2, 1) := by decide +kernel
theorem dL_sum_4 : decode cL_sum 4 = .ok (.iload_n 2, 1) := by decide +kernel
theorem dL_sum_5 : decode cL_sum 5 = .ok (.bipush 8, 2) := by decide +kernel
theorem dL_sum_7 : decode cL_sum 7 = .ok (.if_icmp .ge 17, 3) := by decide +kernel
theorem dL_sum_10 : decode cL_sum 10 = .ok (.iload_n 1, 1) := by decide +kernel
theorem dL_sum_11 : decode cL_sum 11 = .ok (.aload_n 0, 1) := by decide +kernel
theorem dL_sum_12 : decode cL_sum 12 = .ok (.iload_n 2, 1) := by decide +kernel
theorem dL_sum_13 : decode cL_sum 13 = .ok (.invokestatic 57, 3) := by decide +kernel
theorem dL_sum_16 : decode cL_sum 16 = .ok (.iadd, 1) := by decide +kernel
theorem dL_sum_17 : decode cL_sum 17 = .ok (.istore_n 1, 1) := by decide +kernel
theorem dL_sum_18 : decode cL_sum 18 = .ok (.iinc 2 1, 3) := by decide +kernel
theorem dL_sum_21 : decode cL_sum 21 = .ok (.goto (-17), 3) := by decide +kernel
theorem dL_sum_24 : decode cL_sum 24 = .ok (.iload_n 1, 1) := by decide +kernel
theorem dL_sum_25 : decode cL_sum 25 = .ok (.ireturn, 1) := by decide +kernel
theorem dL_ones_0 : decode cL_ones 0 = .ok (.iconst 0, 1) := by decide +kernel
theorem dL_ones_1 : decode cL_ones 1 = .ok (.istore_n 1, 1) := by decide +kernel
theorem dL_ones_2 : decode cL_ones 2 = .ok (.iconst 0, 1) := by decide +kernel
theorem dL_ones_3 : decode cL_ones 3 = .ok (.istore_n 2, 1) := by decide +kernel
theorem dL_ones_4 : decode cL_ones 4 = .ok (.iload_n 2, 1) := by decide +kernel
theorem dL_ones_5 : decode cL_ones 5 = .ok (.bipush 8, 2) := by decide +kernel
theorem dL_ones_7 : decode cL_ones 7 = .ok (.if_icmp .ge 17, 3) := by decide +kernel
theorem dL_ones_10 : decode cL_ones 10 = .ok (.iload_n 1, 1) := by decide +kernel
theorem dL_ones_11 : decode cL_ones 11 = .ok (.iload_n 0, 1) := by decide +kernel
theorem dL_ones_12 : decode cL_ones 12 = .ok (.iload_n 2, 1) := by decide +kernel
theorem dL_ones_13 : decode cL_ones 13 = .ok (.ishr, 1) := by decide +kernel
theorem dL_ones_14 : decode cL_ones 14 = .ok (.iconst 1, 1) := by decide +kernel
theorem dL_ones_15 : decode cL_ones 15 = .ok (.iand, 1) := by decide +kernel
theorem dL_ones_16 : decode cL_ones 16 = .ok (.iadd, 1) := by decide +kernel
theorem dL_ones_17 : decode cL_ones 17 = .ok (.istore_n 1, 1) := by decide +kernel
theorem dL_ones_18 : decode cL_ones 18 = .ok (.iinc 2 1, 3) := by decide +kernel
theorem dL_ones_21 : decode cL_ones 21 = .ok (.goto (-17), 3) := by decide +kernel
theorem dL_ones_24 : decode cL_ones 24 = .ok (.iload_n 1, 1) := by decide +kernel
theorem dL_ones_25 : decode cL_ones 25 = .ok (.ireturn, 1) := by decide +kernel
theorem dL_ways_0 : decode cL_ways 0 = .ok (.iconst 1, 1) := by decide +kernel
theorem dL_ways_1 : decode cL_ways 1 = .ok (.istore_n 1, 1) := by decide +kernel
theorem dL_ways_2 : decode cL_ways 2 = .ok (.iload_n 0, 1) := by decide +kernel
theorem dL_ways_3 : decode cL_ways 3 = .ok (.istore_n 2, 1) := by decide +kernel
theorem dL_ways_4 : decode cL_ways 4 = .ok (.iload_n 2, 1) := by decide +kernel
theorem dL_ways_5 : decode cL_ways 5 = .ok (.iconst 1, 1) := by decide +kernel
theorem dL_ways_6 : decode cL_ways 6 = .ok (.if_icmp .le 13, 3) := by decide +kernel
theorem dL_ways_9 : decode cL_ways 9 = .ok (.iload_n 1, 1) := by decide +kernel
theorem dL_ways_10 : decode cL_ways 10 = .ok (.iload_n 2, 1) := by decide +kernel
theorem dL_ways_11 : decode cL_ways 11 = .ok (.imul, 1) := by decide +kernel
theorem dL_ways_12 : decode cL_ways 12 = .ok (.istore_n 1, 1) := by decide +kernel
theorem dL_ways_13 : decode cL_ways 13 = .ok (.iinc 2 (-1), 3) := by decide +kernel
theorem dL_ways_16 : decode cL_ways 16 = .ok (.goto (-12), 3) := by decide +kernel
theorem dL_ways_19 : decode cL_ways 19 = .ok (.iload_n 1, 1) := by decide +kernel
theorem dL_ways_20 : decode cL_ways 20 = .ok (.ireturn, 1) := by decide +kernel
set_option maxRecDepth 20000 in
theorem ggL_orders_L_at : GoodIn wsL_orders wsL_at := goodIn_r _ [4] (by decide +kernel) (by decide +kernel)
set_option maxRecDepth 20000 in
theorem gL_orders_L_at : GoodIn wsL_orders (va_wsS RL 53 yL_at wsL_at) := goodIn_app (goodIn_of _ (by decide +kernel)) ggL_orders_L_at
set_option maxRecDepth 20000 in
theorem ggL_orders_L_ones : GoodIn wsL_orders wsL_ones := goodIn_r _ [7] (by decide +kernel) (by decide +kernel)
set_option maxRecDepth 20000 in
theorem gL_orders_L_ones : GoodIn wsL_orders (va_wsS RL 61 yL_ones wsL_ones) := goodIn_app (goodIn_of _ (by decide +kernel)) ggL_orders_L_ones
set_option maxRecDepth 20000 in
theorem ggL_orders_L_ways : GoodIn wsL_orders wsL_ways := goodIn_r _ [10] (by decide +kernel) (by decide +kernel)
set_option maxRecDepth 20000 in
theorem gL_orders_L_ways : GoodIn wsL_orders (va_wsS RL 64 yL_ways wsL_ways) := goodIn_app (goodIn_of _ (by decide +kernel)) ggL_orders_L_ways
theorem dL_orders_0 : decode cL_orders 0 = .ok (.iconst 0, 1) := by decide +kernel
theorem dL_orders_1 : decode cL_orders 1 = .ok (.istore_n 3, 1) := by decide +kernel
theorem dL_orders_2 : decode cL_orders 2 = .ok (.iconst 0, 1) := by decide +kernel
theorem dL_orders_3 : decode cL_orders 3 = .ok (.istore 4, 2) := by decide +kernel
theorem dL_orders_5 : decode cL_orders 5 = .ok (.iload 4, 2) := by decide +kernel
theorem dL_orders_7 : decode cL_orders 7 = .ok (.sipush 256, 3) := by decide +kernel
theorem dL_orders_10 : decode cL_orders 10 = .ok (.if_icmp .ge 84, 3) := by decide +kernel
theorem dL_orders_13 : decode cL_orders 13 = .ok (.iload 4, 2) := by decide +kernel
theorem dL_orders_15 : decode cL_orders 15 = .ok (.iload_n 1, 1) := by decide +kernel
theorem dL_orders_16 : decode cL_orders 16 = .ok (.ior, 1) := by decide +kernel
theorem dL_orders_17 : decode cL_orders 17 = .ok (.iload_n 1, 1) := by decide +kernel
theorem dL_orders_18 : decode cL_orders 18 = .ok (.if_icmp .ne 70, 3) := by decide +kernel
theorem dL_orders_21 : decode cL_orders 21 = .ok (.iload 4, 2) := by decide +kernel
theorem dL_orders_23 : decode cL_orders 23 = .ok (.iload_n 2, 1) := by decide +kernel
theorem dL_orders_24 : decode cL_orders 24 = .ok (.ishr, 1) := by decide +kernel
theorem dL_orders_25 : decode cL_orders 25 = .ok (.iconst 1, 1) := by decide +kernel
theorem dL_orders_26 : decode cL_orders 26 = .ok (.iand, 1) := by decide +kernel
theorem dL_orders_27 : decode cL_orders 27 = .ok (.ifCond .ne 61, 3) := by decide +kernel
theorem dL_orders_30 : decode cL_orders 30 = .ok (.iload_n 1, 1) := by decide +kernel
theorem dL_orders_31 : decode cL_orders 31 = .ok (.iload_n 2, 1) := by decide +kernel
theorem dL_orders_32 : decode cL_orders 32 = .ok (.ishr, 1) := by decide +kernel
theorem dL_orders_33 : decode cL_orders 33 = .ok (.iconst 1, 1) := by decide +kernel
theorem dL_orders_34 : decode cL_orders 34 = .ok (.iand, 1) := by decide +kernel
theorem dL_orders_35 : decode cL_orders 35 = .ok (.iconst 1, 1) := by decide +kernel
theorem dL_orders_36 : decode cL_orders 36 = .ok (.if_icmp .ne 52, 3) := by decide +kernel
theorem dL_orders_39 : decode cL_orders 39 = .ok (.aload_n 0, 1) := by decide +kernel
theorem dL_orders_40 : decode cL_orders 40 = .ok (.iload 4, 2) := by decide +kernel
theorem dL_orders_42 : decode cL_orders 42 = .ok (.iconst 1, 1) := by decide +kernel
theorem dL_orders_43 : decode cL_orders 43 = .ok (.iload_n 2, 1) := by decide +kernel
theorem dL_orders_44 : decode cL_orders 44 = .ok (.ishl, 1) := by decide +kernel
theorem dL_orders_45 : decode cL_orders 45 = .ok (.ior, 1) := by decide +kernel
theorem dL_orders_46 : decode cL_orders 46 = .ok (.invokestatic 53, 3) := by decide +kernel
theorem dL_orders_49 : decode cL_orders 49 = .ok (.ifCond .eq 39, 3) := by decide +kernel
theorem dL_orders_52 : decode cL_orders 52 = .ok (.aload_n 0, 1) := by decide +kernel
theorem dL_orders_53 : decode cL_orders 53 = .ok (.iload 4, 2) := by decide +kernel
theorem dL_orders_55 : decode cL_orders 55 = .ok (.invokestatic 53, 3) := by decide +kernel
theorem dL_orders_58 : decode cL_orders 58 = .ok (.ifCond .ne 30, 3) := by decide +kernel
theorem dL_orders_61 : decode cL_orders 61 = .ok (.iload_n 3, 1) := by decide +kernel
theorem dL_orders_62 : decode cL_orders 62 = .ok (.iload 4, 2) := by decide +kernel
theorem dL_orders_64 : decode cL_orders 64 = .ok (.invokestatic 61, 3) := by decide +kernel
theorem dL_orders_67 : decode cL_orders 67 = .ok (.invokestatic 64, 3) := by decide +kernel
theorem dL_orders_70 : decode cL_orders 70 = .ok (.iload_n 1, 1) := by decide +kernel
theorem dL_orders_71 : decode cL_orders 71 = .ok (.invokestatic 61, 3) := by decide +kernel
theorem dL_orders_74 : decode cL_orders 74 = .ok (.iconst 1, 1) := by decide +kernel
theorem dL_orders_75 : decode cL_orders 75 = .ok (.isub, 1) := by decide +kernel
theorem dL_orders_76 : decode cL_orders 76 = .ok (.iload 4, 2) := by decide +kernel
theorem dL_orders_78 : decode cL_orders 78 = .ok (.invokestatic 61, 3) := by decide +kernel
theorem dL_orders_81 : decode cL_orders 81 = .ok (.isub, 1) := by decide +kernel
theorem dL_orders_82 : decode cL_orders 82 = .ok (.invokestatic 64, 3) := by decide +kernel
theorem dL_orders_85 : decode cL_orders 85 = .ok (.imul, 1) := by decide +kernel
theorem dL_orders_86 : decode cL_orders 86 = .ok (.iadd, 1) := by decide +kernel
theorem dL_orders_87 : decode cL_orders 87 = .ok (.istore_n 3, 1) := by decide +kernel
theorem dL_orders_88 : decode cL_orders 88 = .ok (.iinc 4 1, 3) := by decide +kernel
theorem dL_orders_91 : decode cL_orders 91 = .ok (.goto (-86), 3) := by decide +kernel
theorem dL_orders_94 : decode cL_orders 94 = .ok (.iload_n 3, 1) := by decide +kernel
theorem dL_orders_95 : decode cL_orders 95 = .ok (.ireturn, 1) := by decide +kernel
set_option maxRecDepth 20000 in
theorem ggL_acts_L_low : GoodIn wsL_acts wsL_low := goodIn_r _ [8, 9] (by decide +kernel) (by decide +kernel)
set_option maxRecDepth 20000 in
theorem gL_acts_L_low : GoodIn wsL_acts (va_wsS RL 68 yL_low wsL_low) := goodIn_app (goodIn_of _ (by decide +kernel)) ggL_acts_L_low
set_option maxRecDepth 20000 in
theorem ggL_acts_L_adds : GoodIn wsL_acts wsL_adds := goodIn_ca (goodIn_ca (goodIn_ca (goodIn_r _ [12, 13, 14, 3, 2, 15, 16, 17, 18, 19, 20, 21, 22, 23, 24, 25, 26, 27, 28, 29, 30, 31, 32, 33, 34, 35, 36, 37, 38, 39, 40, 41, 42, 43, 44, 45, 46, 47, 48, 49, 50, 51, 52, 53, 54, 55, 56, 57, 58, 59, 60, 61, 62, 63, 64, 65, 66, 67, 68, 69, 70, 71, 72, 73, 74, 75, 76, 77, 78, 79, 80, 81, 82, 83, 84, 85, 86, 87, 88, 89, 90, 91, 92, 93, 94, 95, 96, 97, 98, 99, 100, 101, 102, 103, 104, 105, 106, 107, 108, 109, 110, 111, 112, 113, 114, 115, 116, 117, 118, 119, 120, 121, 122, 123, 124, 125, 126, 127, 128, 129, 130, 131, 132, 133, 134, 135, 136, 137, 138, 139, 140, 141, 142, 143, 144, 145, 146, 147, 148, 149, 150, 151, 152, 153, 154, 155, 156, 157, 158, 159, 160, 161, 162, 212, 213, 214, 215, 216, 217, 218, 219, 220, 221, 222, 223, 224, 225, 226, 227, 228, 229] (by decide +kernel) (by decide +kernel)) (goodIn_sub (fun _ h => List.mem_cons_of_mem _ (List.mem_append_left _ (List.mem_append_left _ (List.mem_append_right _ h)))) (by decide +kernel))) (goodIn_sub (fun _ h => List.mem_cons_of_mem _ (List.mem_append_left _ (List.mem_append_right _ h))) (by decide +kernel))) (goodIn_sub (fun _ h => List.mem_cons_of_mem _ (List.mem_append_right _ h)) (by decide +kernel))
set_option maxRecDepth 20000 in
theorem gL_acts_L_adds : GoodIn wsL_acts (va_wsS RL 71 yL_adds wsL_adds) := goodIn_app (goodIn_of _ (by decide +kernel)) ggL_acts_L_adds
set_option maxRecDepth 20000 in
theorem ggL_acts_L_quotas : GoodIn wsL_acts wsL_quotas := goodIn_ca (goodIn_ca (goodIn_ca (goodIn_r _ [165, 13, 3, 166, 167, 168, 18, 169, 170, 21, 22, 23, 24, 25, 26, 27, 28, 29, 30, 31, 32, 33, 34, 35, 36, 37, 38, 39, 40, 41, 42, 43, 44, 45, 46, 47, 48, 49, 50, 51, 52, 53, 54, 55, 56, 57, 58, 59, 60, 61, 62, 63, 64, 65, 66, 67, 68, 69, 70, 71, 72, 73, 74, 75, 76, 77, 78, 79, 80, 81, 82, 83, 84, 85, 86, 87, 88, 89, 90, 91, 92, 93, 94, 95, 96, 97, 98, 99, 100, 101, 102, 103, 104, 105, 106, 107, 108, 109, 110, 111, 112, 113, 114, 115, 116, 117, 118, 119, 120, 121, 122, 123, 124, 125, 126, 127, 128, 129, 130, 131, 132, 133, 134, 135, 136, 137, 138, 139, 140, 141, 142, 143, 144, 145, 146, 147, 148, 149, 150, 151, 152, 153, 154, 155, 156, 157, 158, 159, 160, 161, 162, 212, 213, 214, 215, 216, 217, 218, 219, 220, 221, 222, 223, 224, 225, 226, 227, 228, 229] (by decide +kernel) (by decide +kernel)) (goodIn_sub (fun _ h => List.mem_cons_of_mem _ (List.mem_append_left _ (List.mem_append_left _ (List.mem_append_right _ h)))) (by decide +kernel))) (goodIn_sub (fun _ h => List.mem_cons_of_mem _ (List.mem_append_left _ (List.mem_append_right _ h))) (by decide +kernel))) (goodIn_sub (fun _ h => List.mem_cons_of_mem _ (List.mem_append_right _ h)) (by decide +kernel))
set_option maxRecDepth 20000 in
theorem gL_acts_L_quotas : GoodIn wsL_acts (va_wsS RL 75 yL_quotas wsL_quotas) := goodIn_app (goodIn_of _ (by decide +kernel)) ggL_acts_L_quotas
set_option maxRecDepth 20000 in
theorem ggL_acts_L_rules : GoodIn wsL_acts wsL_rules := goodIn_ca (goodIn_ca (goodIn_ca (goodIn_r _ [173, 13, 14, 3, 2, 174, 175, 176, 18, 177, 178, 21, 22, 23, 24, 25, 26, 27, 28, 29, 30, 31, 32, 33, 34, 35, 36, 37, 38, 39, 40, 41, 42, 43, 44, 45, 46, 47, 48, 49, 50, 51, 52, 53, 54, 55, 56, 57, 58, 59, 60, 61, 62, 63, 64, 65, 66, 67, 68, 69, 70, 71, 72, 73, 74, 75, 76, 77, 78, 79, 80, 81, 82, 83, 84, 85, 86, 87, 88, 89, 90, 91, 92, 93, 94, 95, 96, 97, 98, 99, 100, 101, 102, 103, 104, 105, 106, 107, 108, 109, 110, 111, 112, 113, 114, 115, 116, 117, 118, 119, 120, 121, 122, 123, 124, 125, 126, 127, 128, 129, 130, 131, 132, 133, 134, 135, 136, 137, 138, 139, 140, 141, 142, 143, 144, 145, 146, 147, 148, 149, 150, 151, 152, 153, 154, 155, 156, 157, 158, 159, 160, 161, 162, 212, 213, 214, 215, 216, 217, 218, 219, 220, 221, 222, 223, 224, 225, 226, 227, 228, 229] (by decide +kernel) (by decide +kernel)) (goodIn_sub (fun _ h => List.mem_cons_of_mem _ (List.mem_append_left _ (List.mem_append_left _ (List.mem_append_right _ h)))) (by decide +kernel))) (goodIn_sub (fun _ h => List.mem_cons_of_mem _ (List.mem_append_left _ (List.mem_append_right _ h))) (by decide +kernel))) (goodIn_sub (fun _ h => List.mem_cons_of_mem _ (List.mem_append_right _ h)) (by decide +kernel))
set_option maxRecDepth 20000 in
theorem gL_acts_L_rules : GoodIn wsL_acts (va_wsS RL 78 yL_rules wsL_rules) := goodIn_app (goodIn_of _ (by decide +kernel)) ggL_acts_L_rules
set_option maxRecDepth 20000 in
theorem ggL_acts_L_drops : GoodIn wsL_acts wsL_drops := goodIn_ca (goodIn_ca (goodIn_ca (goodIn_r _ [181, 182, 4, 183, 184, 185, 18, 186, 187, 21, 22, 23, 24, 25, 26, 27, 28, 29, 30, 31, 32, 33, 34, 35, 36, 37, 38, 39, 40, 41, 42, 43, 44, 45, 46, 47, 48, 49, 50, 51, 52, 53, 54, 55, 56, 57, 58, 59, 60, 61, 62, 63, 64, 65, 66, 67, 68, 69, 70, 71, 72, 73, 74, 75, 76, 77, 78, 79, 80, 81, 82, 83, 84, 85, 86, 87, 88, 89, 90, 91, 92, 93, 94, 95, 96, 97, 98, 99, 100, 101, 102, 103, 104, 105, 106, 107, 108, 109, 110, 111, 112, 113, 114, 115, 116, 117, 118, 119, 120, 121, 122, 123, 124, 125, 126, 127, 128, 129, 130, 131, 132, 133, 134, 135, 136, 137, 138, 139, 140, 141, 142, 143, 144, 145, 146, 147, 148, 149, 150, 151, 152, 153, 154, 155, 156, 157, 158, 159, 160, 161, 162, 212, 213, 214, 215, 216, 217, 218, 219, 220, 221, 222, 223, 224, 225, 226, 227, 228, 229] (by decide +kernel) (by decide +kernel)) (goodIn_sub (fun _ h => List.mem_cons_of_mem _ (List.mem_append_left _ (List.mem_append_left _ (List.mem_append_right _ h)))) (by decide +kernel))) (goodIn_sub (fun _ h => List.mem_cons_of_mem _ (List.mem_append_left _ (List.mem_append_right _ h))) (by decide +kernel))) (goodIn_sub (fun _ h => List.mem_cons_of_mem _ (List.mem_append_right _ h)) (by decide +kernel))
set_option maxRecDepth 20000 in
theorem gL_acts_L_drops : GoodIn wsL_acts (va_wsS RL 82 yL_drops wsL_drops) := goodIn_app (goodIn_of _ (by decide +kernel)) ggL_acts_L_drops
set_option maxRecDepth 20000 in
theorem ggL_acts_L_weighs : GoodIn wsL_acts wsL_weighs := goodIn_ca (goodIn_ca (goodIn_ca (goodIn_r _ [190, 182, 13, 4, 3, 191, 192, 193, 18, 194, 195, 21, 22, 23, 24, 25, 26, 27, 28, 29, 30, 31, 32, 33, 34, 35, 36, 37, 38, 39, 40, 41, 42, 43, 44, 45, 46, 47, 48, 49, 50, 51, 52, 53, 54, 55, 56, 57, 58, 59, 60, 61, 62, 63, 64, 65, 66, 67, 68, 69, 70, 71, 72, 73, 74, 75, 76, 77, 78, 79, 80, 81, 82, 83, 84, 85, 86, 87, 88, 89, 90, 91, 92, 93, 94, 95, 96, 97, 98, 99, 100, 101, 102, 103, 104, 105, 106, 107, 108, 109, 110, 111, 112, 113, 114, 115, 116, 117, 118, 119, 120, 121, 122, 123, 124, 125, 126, 127, 128, 129, 130, 131, 132, 133, 134, 135, 136, 137, 138, 139, 140, 141, 142, 143, 144, 145, 146, 147, 148, 149, 150, 151, 152, 153, 154, 155, 156, 157, 158, 159, 160, 161, 162, 212, 213, 214, 215, 216, 217, 218, 219, 220, 221, 222, 223, 224, 225, 226, 227, 228, 229] (by decide +kernel) (by decide +kernel)) (goodIn_sub (fun _ h => List.mem_cons_of_mem _ (List.mem_append_left _ (List.mem_append_left _ (List.mem_append_right _ h)))) (by decide +kernel))) (goodIn_sub (fun _ h => List.mem_cons_of_mem _ (List.mem_append_left _ (List.mem_append_right _ h))) (by decide +kernel))) (goodIn_sub (fun _ h => List.mem_cons_of_mem _ (List.mem_append_right _ h)) (by decide +kernel))
set_option maxRecDepth 20000 in
theorem gL_acts_L_weighs : GoodIn wsL_acts (va_wsS RL 85 yL_weighs wsL_weighs) := goodIn_app (goodIn_of _ (by decide +kernel)) ggL_acts_L_weighs
set_option maxRecDepth 20000 in
theorem ggL_acts_L_follows : GoodIn wsL_acts wsL_follows := goodIn_ca (goodIn_ca (goodIn_ca (goodIn_r _ [198, 182, 13, 14, 4, 3, 2, 199, 200, 201, 18, 202, 203, 21, 22, 23, 24, 25, 26, 27, 28, 29, 30, 31, 32, 33, 34, 35, 36, 37, 38, 39, 40, 41, 42, 43, 44, 45, 46, 47, 48, 49, 50, 51, 52, 53, 54, 55, 56, 57, 58, 59, 60, 61, 62, 63, 64, 65, 66, 67, 68, 69, 70, 71, 72, 73, 74, 75, 76, 77, 78, 79, 80, 81, 82, 83, 84, 85, 86, 87, 88, 89, 90, 91, 92, 93, 94, 95, 96, 97, 98, 99, 100, 101, 102, 103, 104, 105, 106, 107, 108, 109, 110, 111, 112, 113, 114, 115, 116, 117, 118, 119, 120, 121, 122, 123, 124, 125, 126, 127, 128, 129, 130, 131, 132, 133, 134, 135, 136, 137, 138, 139, 140, 141, 142, 143, 144, 145, 146, 147, 148, 149, 150, 151, 152, 153, 154, 155, 156, 157, 158, 159, 160, 161, 162, 212, 213, 214, 215, 216, 217, 218, 219, 220, 221, 222, 223, 224, 225, 226, 227, 228, 229] (by decide +kernel) (by decide +kernel)) (goodIn_sub (fun _ h => List.mem_cons_of_mem _ (List.mem_append_left _ (List.mem_append_left _ (List.mem_append_right _ h)))) (by decide +kernel))) (goodIn_sub (fun _ h => List.mem_cons_of_mem _ (List.mem_append_left _ (List.mem_append_right _ h))) (by decide +kernel))) (goodIn_sub (fun _ h => List.mem_cons_of_mem _ (List.mem_append_right _ h)) (by decide +kernel))
set_option maxRecDepth 20000 in
theorem gL_acts_L_follows : GoodIn wsL_acts (va_wsS RL 88 yL_follows wsL_follows) := goodIn_app (goodIn_of _ (by decide +kernel)) ggL_acts_L_follows
set_option maxRecDepth 20000 in
theorem ggL_acts_L_leaves : GoodIn wsL_acts wsL_leaves := goodIn_ca (goodIn_ca (goodIn_ca (goodIn_r _ [206, 182, 14, 4, 2, 207, 208, 209, 18, 210, 211, 21, 22, 23, 24, 25, 26, 27, 28, 29, 30, 31, 32, 33, 34, 35, 36, 37, 38, 39, 40, 41, 42, 43, 44, 45, 46, 47, 48, 49, 50, 51, 52, 53, 54, 55, 56, 57, 58, 59, 60, 61, 62, 63, 64, 65, 66, 67, 68, 69, 70, 71, 72, 73, 74, 75, 76, 77, 78, 79, 80, 81, 82, 83, 84, 85, 86, 87, 88, 89, 90, 91, 92, 93, 94, 95, 96, 97, 98, 99, 100, 101, 102, 103, 104, 105, 106, 107, 108, 109, 110, 111, 112, 113, 114, 115, 116, 117, 118, 119, 120, 121, 122, 123, 124, 125, 126, 127, 128, 129, 130, 131, 132, 133, 134, 135, 136, 137, 138, 139, 140, 141, 142, 143, 144, 145, 146, 147, 148, 149, 150, 151, 152, 153, 154, 155, 156, 157, 158, 159, 160, 161, 162, 212, 213, 214, 215, 216, 217, 218, 219, 220, 221, 222, 223, 224, 225, 226, 227, 228, 229] (by decide +kernel) (by decide +kernel)) (goodIn_sub (fun _ h => List.mem_cons_of_mem _ (List.mem_append_left _ (List.mem_append_left _ (List.mem_append_right _ h)))) (by decide +kernel))) (goodIn_sub (fun _ h => List.mem_cons_of_mem _ (List.mem_append_left _ (List.mem_append_right _ h))) (by decide +kernel))) (goodIn_sub (fun _ h => List.mem_cons_of_mem _ (List.mem_append_right _ h)) (by decide +kernel))
set_option maxRecDepth 20000 in
theorem gL_acts_L_leaves : GoodIn wsL_acts (va_wsS RL 91 yL_leaves wsL_leaves) := goodIn_app (goodIn_of _ (by decide +kernel)) ggL_acts_L_leaves
theorem dL_acts_0 : decode cL_acts 0 = .ok (.iload 5, 2) := by decide +kernel
theorem dL_acts_2 : decode cL_acts 2 = .ok (.iconst 5, 1) := by decide +kernel
theorem dL_acts_3 : decode cL_acts 3 = .ok (.ishr, 1) := by decide +kernel
theorem dL_acts_4 : decode cL_acts 4 = .ok (.ldc 67, 2) := by decide +kernel
theorem dL_acts_6 : decode cL_acts 6 = .ok (.invokestatic 68, 3) := by decide +kernel
theorem dL_acts_9 : decode cL_acts 9 = .ok (.istore 6, 2) := by decide +kernel
theorem dL_acts_11 : decode cL_acts 11 = .ok (.iload 5, 2) := by decide +kernel
theorem dL_acts_13 : decode cL_acts 13 = .ok (.bipush 20, 2) := by decide +kernel
theorem dL_acts_15 : decode cL_acts 15 = .ok (.invokestatic 68, 3) := by decide +kernel
theorem dL_acts_18 : decode cL_acts 18 = .ok (.istore 7, 2) := by decide +kernel
theorem dL_acts_20 : decode cL_acts 20 = .ok (.iload 7, 2) := by decide +kernel
theorem dL_acts_22 : decode cL_acts 22 = .ok (.iconst 5, 1) := by decide +kernel
theorem dL_acts_23 : decode cL_acts 23 = .ok (.if_icmp .ge 98, 3) := by decide +kernel
theorem dL_acts_26 : decode cL_acts 26 = .ok (.aload_n 1, 1) := by decide +kernel
theorem dL_acts_27 : decode cL_acts 27 = .ok (.iconst 0, 1) := by decide +kernel
theorem dL_acts_28 : decode cL_acts 28 = .ok (.iaload, 1) := by decide +kernel
theorem dL_acts_29 : decode cL_acts 29 = .ok (.bipush 8, 2) := by decide +kernel
theorem dL_acts_31 : decode cL_acts 31 = .ok (.if_icmp .ne 30, 3) := by decide +kernel
theorem dL_acts_34 : decode cL_acts 34 = .ok (.aload_n 0, 1) := by decide +kernel
theorem dL_acts_35 : decode cL_acts 35 = .ok (.iconst 0, 1) := by decide +kernel
theorem dL_acts_36 : decode cL_acts 36 = .ok (.invokestatic 71, 3) := by decide +kernel
theorem dL_acts_39 : decode cL_acts 39 = .ok (.ldc 20, 2) := by decide +kernel
theorem dL_acts_41 : decode cL_acts 41 = .ok (.if_icmp .ne 18, 3) := by decide +kernel
theorem dL_acts_44 : decode cL_acts 44 = .ok (.aload_n 0, 1) := by decide +kernel
theorem dL_acts_45 : decode cL_acts 45 = .ok (.bipush 51, 2) := by decide +kernel
theorem dL_acts_47 : decode cL_acts 47 = .ok (.invokestatic 71, 3) := by decide +kernel
theorem dL_acts_50 : decode cL_acts 50 = .ok (.ldc 17, 2) := by decide +kernel
theorem dL_acts_52 : decode cL_acts 52 = .ok (.if_icmp .ne 7, 3) := by decide +kernel
theorem dL_acts_55 : decode cL_acts 55 = .ok (.iconst 1, 1) := by decide +kernel
theorem dL_acts_56 : decode cL_acts 56 = .ok (.goto 4, 3) := by decide +kernel
theorem dL_acts_59 : decode cL_acts 59 = .ok (.iconst 0, 1) := by decide +kernel
theorem dL_acts_60 : decode cL_acts 60 = .ok (.ireturn, 1) := by decide +kernel
theorem dL_acts_61 : decode cL_acts 61 = .ok (.aload_n 2, 1) := by decide +kernel
theorem dL_acts_62 : decode cL_acts 62 = .ok (.aload_n 1, 1) := by decide +kernel
theorem dL_acts_63 : decode cL_acts 63 = .ok (.iconst 0, 1) := by decide +kernel
theorem dL_acts_64 : decode cL_acts 64 = .ok (.iaload, 1) := by decide +kernel
theorem dL_acts_65 : decode cL_acts 65 = .ok (.iload 6, 2) := by decide +kernel
theorem dL_acts_67 : decode cL_acts 67 = .ok (.iload 6, 2) := by decide +kernel
theorem dL_acts_69 : decode cL_acts 69 = .ok (.iconst 3, 1) := by decide +kernel
theorem dL_acts_70 : decode cL_acts 70 = .ok (.irem, 1) := by decide +kernel
theorem dL_acts_71 : decode cL_acts 71 = .ok (.ifCond .ne 8, 3) := by decide +kernel
theorem dL_acts_74 : decode cL_acts 74 = .ok (.bipush 51, 2) := by decide +kernel
theorem dL_acts_76 : decode cL_acts 76 = .ok (.goto 5, 3) := by decide +kernel
theorem dL_acts_79 : decode cL_acts 79 = .ok (.bipush 6, 2) := by decide +kernel
theorem dL_acts_81 : decode cL_acts 81 = .ok (.irem, 1) := by decide +kernel
theorem dL_acts_82 : decode cL_acts 82 = .ok (.iastore, 1) := by decide +kernel
theorem dL_acts_83 : decode cL_acts 83 = .ok (.aload_n 3, 1) := by decide +kernel
theorem dL_acts_84 : decode cL_acts 84 = .ok (.aload_n 1, 1) := by decide +kernel
theorem dL_acts_85 : decode cL_acts 85 = .ok (.iconst 0, 1) := by decide +kernel
theorem dL_acts_86 : decode cL_acts 86 = .ok (.iaload, 1) := by decide +kernel
theorem dL_acts_87 : decode cL_acts 87 = .ok (.iconst (-1), 1) := by decide +kernel
theorem dL_acts_88 : decode cL_acts 88 = .ok (.iastore, 1) := by decide +kernel
theorem dL_acts_89 : decode cL_acts 89 = .ok (.aload_n 1, 1) := by decide +kernel
theorem dL_acts_90 : decode cL_acts 90 = .ok (.iconst 0, 1) := by decide +kernel
theorem dL_acts_91 : decode cL_acts 91 = .ok (.dup2, 1) := by decide +kernel
theorem dL_acts_92 : decode cL_acts 92 = .ok (.iaload, 1) := by decide +kernel
theorem dL_acts_93 : decode cL_acts 93 = .ok (.iconst 1, 1) := by decide +kernel
theorem dL_acts_94 : decode cL_acts 94 = .ok (.iadd, 1) := by decide +kernel
theorem dL_acts_95 : decode cL_acts 95 = .ok (.iastore, 1) := by decide +kernel
theorem dL_acts_96 : decode cL_acts 96 = .ok (.aload_n 0, 1) := by decide +kernel
theorem dL_acts_97 : decode cL_acts 97 = .ok (.aload_n 2, 1) := by decide +kernel
theorem dL_acts_98 : decode cL_acts 98 = .ok (.aload_n 1, 1) := by decide +kernel
theorem dL_acts_99 : decode cL_acts 99 = .ok (.iconst 0, 1) := by decide +kernel
theorem dL_acts_100 : decode cL_acts 100 = .ok (.iaload, 1) := by decide +kernel
theorem dL_acts_101 : decode cL_acts 101 = .ok (.iconst 1, 1) := by decide +kernel
theorem dL_acts_102 : decode cL_acts 102 = .ok (.isub, 1) := by decide +kernel
theorem dL_acts_103 : decode cL_acts 103 = .ok (.iaload, 1) := by decide +kernel
theorem dL_acts_104 : decode cL_acts 104 = .ok (.invokestatic 71, 3) := by decide +kernel
theorem dL_acts_107 : decode cL_acts 107 = .ok (.aload_n 1, 1) := by decide +kernel
theorem dL_acts_108 : decode cL_acts 108 = .ok (.iconst 0, 1) := by decide +kernel
theorem dL_acts_109 : decode cL_acts 109 = .ok (.iaload, 1) := by decide +kernel
theorem dL_acts_110 : decode cL_acts 110 = .ok (.iconst 1, 1) := by decide +kernel
theorem dL_acts_111 : decode cL_acts 111 = .ok (.isub, 1) := by decide +kernel
theorem dL_acts_112 : decode cL_acts 112 = .ok (.if_icmp .ne 7, 3) := by decide +kernel
theorem dL_acts_115 : decode cL_acts 115 = .ok (.iconst 1, 1) := by decide +kernel
theorem dL_acts_116 : decode cL_acts 116 = .ok (.goto 4, 3) := by decide +kernel
theorem dL_acts_119 : decode cL_acts 119 = .ok (.iconst 0, 1) := by decide +kernel
theorem dL_acts_120 : decode cL_acts 120 = .ok (.ireturn, 1) := by decide +kernel
theorem dL_acts_121 : decode cL_acts 121 = .ok (.iload 7, 2) := by decide +kernel
theorem dL_acts_123 : decode cL_acts 123 = .ok (.bipush 8, 2) := by decide +kernel
theorem dL_acts_125 : decode cL_acts 125 = .ok (.if_icmp .ge 92, 3) := by decide +kernel
theorem dL_acts_128 : decode cL_acts 128 = .ok (.aload_n 1, 1) := by decide +kernel
theorem dL_acts_129 : decode cL_acts 129 = .ok (.iconst 1, 1) := by decide +kernel
theorem dL_acts_130 : decode cL_acts 130 = .ok (.iaload, 1) := by decide +kernel
theorem dL_acts_131 : decode cL_acts 131 = .ok (.istore 8, 2) := by decide +kernel
theorem dL_acts_133 : decode cL_acts 133 = .ok (.iconst 0, 1) := by decide +kernel
theorem dL_acts_134 : decode cL_acts 134 = .ok (.istore 9, 2) := by decide +kernel
theorem dL_acts_136 : decode cL_acts 136 = .ok (.iconst 0, 1) := by decide +kernel
theorem dL_acts_137 : decode cL_acts 137 = .ok (.istore 10, 2) := by decide +kernel
theorem dL_acts_139 : decode cL_acts 139 = .ok (.iload 10, 2) := by decide +kernel
theorem dL_acts_141 : decode cL_acts 141 = .ok (.aload_n 1, 1) := by decide +kernel
theorem dL_acts_142 : decode cL_acts 142 = .ok (.iconst 0, 1) := by decide +kernel
theorem dL_acts_143 : decode cL_acts 143 = .ok (.iaload, 1) := by decide +kernel
theorem dL_acts_144 : decode cL_acts 144 = .ok (.if_icmp .ge 18, 3) := by decide +kernel
theorem dL_acts_147 : decode cL_acts 147 = .ok (.iload 9, 2) := by decide +kernel
theorem dL_acts_149 : decode cL_acts 149 = .ok (.aload_n 2, 1) := by decide +kernel
theorem dL_acts_150 : decode cL_acts 150 = .ok (.iload 10, 2) := by decide +kernel
theorem dL_acts_152 : decode cL_acts 152 = .ok (.iaload, 1) := by decide +kernel
theorem dL_acts_153 : decode cL_acts 153 = .ok (.iadd, 1) := by decide +kernel
theorem dL_acts_154 : decode cL_acts 154 = .ok (.istore 9, 2) := by decide +kernel
theorem dL_acts_156 : decode cL_acts 156 = .ok (.iinc 10 1, 3) := by decide +kernel
theorem dL_acts_159 : decode cL_acts 159 = .ok (.goto (-20), 3) := by decide +kernel
theorem dL_acts_162 : decode cL_acts 162 = .ok (.aload_n 1, 1) := by decide +kernel
theorem dL_acts_163 : decode cL_acts 163 = .ok (.iconst 1, 1) := by decide +kernel
theorem dL_acts_164 : decode cL_acts 164 = .ok (.iload 6, 2) := by decide +kernel
theorem dL_acts_166 : decode cL_acts 166 = .ok (.iconst 4, 1) := by decide +kernel
theorem dL_acts_167 : decode cL_acts 167 = .ok (.irem, 1) := by decide +kernel
theorem dL_acts_168 : decode cL_acts 168 = .ok (.ifCond .eq 8, 3) := by decide +kernel
theorem dL_acts_171 : decode cL_acts 171 = .ok (.iload 9, 2) := by decide +kernel
theorem dL_acts_173 : decode cL_acts 173 = .ok (.ifCond .ne 16, 3) := by decide +kernel
theorem dL_acts_176 : decode cL_acts 176 = .ok (.iconst 1, 1) := by decide +kernel
theorem dL_acts_177 : decode cL_acts 177 = .ok (.iload 6, 2) := by decide +kernel
theorem dL_acts_179 : decode cL_acts 179 = .ok (.iconst 4, 1) := by decide +kernel
theorem dL_acts_180 : decode cL_acts 180 = .ok (.idiv, 1) := by decide +kernel
theorem dL_acts_181 : decode cL_acts 181 = .ok (.sipush 400, 3) := by decide +kernel
theorem dL_acts_184 : decode cL_acts 184 = .ok (.irem, 1) := by decide +kernel
theorem dL_acts_185 : decode cL_acts 185 = .ok (.iadd, 1) := by decide +kernel
theorem dL_acts_186 : decode cL_acts 186 = .ok (.goto 12, 3) := by decide +kernel
theorem dL_acts_189 : decode cL_acts 189 = .ok (.iconst 1, 1) := by decide +kernel
theorem dL_acts_190 : decode cL_acts 190 = .ok (.iload 6, 2) := by decide +kernel
theorem dL_acts_192 : decode cL_acts 192 = .ok (.iconst 4, 1) := by decide +kernel
theorem dL_acts_193 : decode cL_acts 193 = .ok (.idiv, 1) := by decide +kernel
theorem dL_acts_194 : decode cL_acts 194 = .ok (.iload 9, 2) := by decide +kernel
theorem dL_acts_196 : decode cL_acts 196 = .ok (.irem, 1) := by decide +kernel
theorem dL_acts_197 : decode cL_acts 197 = .ok (.iadd, 1) := by decide +kernel
theorem dL_acts_198 : decode cL_acts 198 = .ok (.iastore, 1) := by decide +kernel
theorem dL_acts_199 : decode cL_acts 199 = .ok (.aload_n 0, 1) := by decide +kernel
theorem dL_acts_200 : decode cL_acts 200 = .ok (.aload_n 1, 1) := by decide +kernel
theorem dL_acts_201 : decode cL_acts 201 = .ok (.iconst 1, 1) := by decide +kernel
theorem dL_acts_202 : decode cL_acts 202 = .ok (.iaload, 1) := by decide +kernel
theorem dL_acts_203 : decode cL_acts 203 = .ok (.invokestatic 75, 3) := by decide +kernel
theorem dL_acts_206 : decode cL_acts 206 = .ok (.iload 8, 2) := by decide +kernel
theorem dL_acts_208 : decode cL_acts 208 = .ok (.if_icmp .ne 7, 3) := by decide +kernel
theorem dL_acts_211 : decode cL_acts 211 = .ok (.iconst 1, 1) := by decide +kernel
theorem dL_acts_212 : decode cL_acts 212 = .ok (.goto 4, 3) := by decide +kernel
theorem dL_acts_215 : decode cL_acts 215 = .ok (.iconst 0, 1) := by decide +kernel
theorem dL_acts_216 : decode cL_acts 216 = .ok (.ireturn, 1) := by decide +kernel
theorem dL_acts_217 : decode cL_acts 217 = .ok (.iload 7, 2) := by decide +kernel
theorem dL_acts_219 : decode cL_acts 219 = .ok (.bipush 10, 2) := by decide +kernel
theorem dL_acts_221 : decode cL_acts 221 = .ok (.if_icmp .ge 135, 3) := by decide +kernel
theorem dL_acts_224 : decode cL_acts 224 = .ok (.iload 6, 2) := by decide +kernel
theorem dL_acts_226 : decode cL_acts 226 = .ok (.iconst 3, 1) := by decide +kernel
theorem dL_acts_227 : decode cL_acts 227 = .ok (.irem, 1) := by decide +kernel
theorem dL_acts_228 : decode cL_acts 228 = .ok (.istore 8, 2) := by decide +kernel
theorem dL_acts_230 : decode cL_acts 230 = .ok (.iload 8, 2) := by decide +kernel
theorem dL_acts_232 : decode cL_acts 232 = .ok (.ifCond .ne 15, 3) := by decide +kernel
theorem dL_acts_235 : decode cL_acts 235 = .ok (.iconst 1, 1) := by decide +kernel
theorem dL_acts_236 : decode cL_acts 236 = .ok (.iload 6, 2) := by decide +kernel
theorem dL_acts_238 : decode cL_acts 238 = .ok (.iconst 3, 1) := by decide +kernel
theorem dL_acts_239 : decode cL_acts 239 = .ok (.idiv, 1) := by decide +kernel
theorem dL_acts_240 : decode cL_acts 240 = .ok (.bipush 8, 2) := by decide +kernel
theorem dL_acts_242 : decode cL_acts 242 = .ok (.irem, 1) := by decide +kernel
theorem dL_acts_243 : decode cL_acts 243 = .ok (.iadd, 1) := by decide +kernel
theorem dL_acts_244 : decode cL_acts 244 = .ok (.goto 29, 3) := by decide +kernel
theorem dL_acts_247 : decode cL_acts 247 = .ok (.iload 8, 2) := by decide +kernel
theorem dL_acts_249 : decode cL_acts 249 = .ok (.iconst 1, 1) := by decide +kernel
theorem dL_acts_250 : decode cL_acts 250 = .ok (.if_icmp .ne 13, 3) := by decide +kernel
theorem dL_acts_253 : decode cL_acts 253 = .ok (.iload 6, 2) := by decide +kernel
theorem dL_acts_255 : decode cL_acts 255 = .ok (.iconst 3, 1) := by decide +kernel
theorem dL_acts_256 : decode cL_acts 256 = .ok (.idiv, 1) := by decide +kernel
theorem dL_acts_257 : decode cL_acts 257 = .ok (.bipush 8, 2) := by decide +kernel
theorem dL_acts_259 : decode cL_acts 259 = .ok (.irem, 1) := by decide +kernel
theorem dL_acts_260 : decode cL_acts 260 = .ok (.goto 13, 3) := by decide +kernel
theorem dL_acts_263 : decode cL_acts 263 = .ok (.iconst 1, 1) := by decide +kernel
theorem dL_acts_264 : decode cL_acts 264 = .ok (.iload 6, 2) := by decide +kernel
theorem dL_acts_266 : decode cL_acts 266 = .ok (.iconst 3, 1) := by decide +kernel
theorem dL_acts_267 : decode cL_acts 267 = .ok (.idiv, 1) := by decide +kernel
theorem dL_acts_268 : decode cL_acts 268 = .ok (.sipush 255, 3) := by decide +kernel
theorem dL_acts_271 : decode cL_acts 271 = .ok (.irem, 1) := by decide +kernel
theorem dL_acts_272 : decode cL_acts 272 = .ok (.iadd, 1) := by decide +kernel
theorem dL_acts_273 : decode cL_acts 273 = .ok (.istore 9, 2) := by decide +kernel
theorem dL_acts_275 : decode cL_acts 275 = .ok (.aload_n 1, 1) := by decide +kernel
theorem dL_acts_276 : decode cL_acts 276 = .ok (.iconst 2, 1) := by decide +kernel
theorem dL_acts_277 : decode cL_acts 277 = .ok (.iaload, 1) := by decide +kernel
theorem dL_acts_278 : decode cL_acts 278 = .ok (.iconst 4, 1) := by decide +kernel
theorem dL_acts_279 : decode cL_acts 279 = .ok (.if_icmp .ne 33, 3) := by decide +kernel
theorem dL_acts_282 : decode cL_acts 282 = .ok (.aload_n 0, 1) := by decide +kernel
theorem dL_acts_283 : decode cL_acts 283 = .ok (.iload 8, 2) := by decide +kernel
theorem dL_acts_285 : decode cL_acts 285 = .ok (.iload 9, 2) := by decide +kernel
theorem dL_acts_287 : decode cL_acts 287 = .ok (.invokestatic 78, 3) := by decide +kernel
theorem dL_acts_290 : decode cL_acts 290 = .ok (.ldc 20, 2) := by decide +kernel
theorem dL_acts_292 : decode cL_acts 292 = .ok (.if_icmp .ne 18, 3) := by decide +kernel
theorem dL_acts_295 : decode cL_acts 295 = .ok (.aload_n 0, 1) := by decide +kernel
theorem dL_acts_296 : decode cL_acts 296 = .ok (.iconst 3, 1) := by decide +kernel
theorem dL_acts_297 : decode cL_acts 297 = .ok (.iconst 1, 1) := by decide +kernel
theorem dL_acts_298 : decode cL_acts 298 = .ok (.invokestatic 78, 3) := by decide +kernel
theorem dL_acts_301 : decode cL_acts 301 = .ok (.ldc 17, 2) := by decide +kernel
theorem dL_acts_303 : decode cL_acts 303 = .ok (.if_icmp .ne 7, 3) := by decide +kernel
theorem dL_acts_306 : decode cL_acts 306 = .ok (.iconst 1, 1) := by decide +kernel
theorem dL_acts_307 : decode cL_acts 307 = .ok (.goto 4, 3) := by decide +kernel
theorem dL_acts_310 : decode cL_acts 310 = .ok (.iconst 0, 1) := by decide +kernel
theorem dL_acts_311 : decode cL_acts 311 = .ok (.ireturn, 1) := by decide +kernel
theorem dL_acts_312 : decode cL_acts 312 = .ok (.aload 4, 2) := by decide +kernel
theorem dL_acts_314 : decode cL_acts 314 = .ok (.aload_n 1, 1) := by decide +kernel
theorem dL_acts_315 : decode cL_acts 315 = .ok (.iconst 2, 1) := by decide +kernel
theorem dL_acts_316 : decode cL_acts 316 = .ok (.iaload, 1) := by decide +kernel
theorem dL_acts_317 : decode cL_acts 317 = .ok (.sipush 1000, 3) := by decide +kernel
theorem dL_acts_320 : decode cL_acts 320 = .ok (.iload 8, 2) := by decide +kernel
theorem dL_acts_322 : decode cL_acts 322 = .ok (.imul, 1) := by decide +kernel
theorem dL_acts_323 : decode cL_acts 323 = .ok (.iload 9, 2) := by decide +kernel
theorem dL_acts_325 : decode cL_acts 325 = .ok (.iadd, 1) := by decide +kernel
theorem dL_acts_326 : decode cL_acts 326 = .ok (.iastore, 1) := by decide +kernel
theorem dL_acts_327 : decode cL_acts 327 = .ok (.aload_n 1, 1) := by decide +kernel
theorem dL_acts_328 : decode cL_acts 328 = .ok (.iconst 2, 1) := by decide +kernel
theorem dL_acts_329 : decode cL_acts 329 = .ok (.dup2, 1) := by decide +kernel
theorem dL_acts_330 : decode cL_acts 330 = .ok (.iaload, 1) := by decide +kernel
theorem dL_acts_331 : decode cL_acts 331 = .ok (.iconst 1, 1) := by decide +kernel
theorem dL_acts_332 : decode cL_acts 332 = .ok (.iadd, 1) := by decide +kernel
theorem dL_acts_333 : decode cL_acts 333 = .ok (.iastore, 1) := by decide +kernel
theorem dL_acts_334 : decode cL_acts 334 = .ok (.aload_n 0, 1) := by decide +kernel
theorem dL_acts_335 : decode cL_acts 335 = .ok (.iload 8, 2) := by decide +kernel
theorem dL_acts_337 : decode cL_acts 337 = .ok (.iload 9, 2) := by decide +kernel
theorem dL_acts_339 : decode cL_acts 339 = .ok (.invokestatic 78, 3) := by decide +kernel
theorem dL_acts_342 : decode cL_acts 342 = .ok (.aload_n 1, 1) := by decide +kernel
theorem dL_acts_343 : decode cL_acts 343 = .ok (.iconst 2, 1) := by decide +kernel
theorem dL_acts_344 : decode cL_acts 344 = .ok (.iaload, 1) := by decide +kernel
theorem dL_acts_345 : decode cL_acts 345 = .ok (.iconst 1, 1) := by decide +kernel
theorem dL_acts_346 : decode cL_acts 346 = .ok (.isub, 1) := by decide +kernel
theorem dL_acts_347 : decode cL_acts 347 = .ok (.if_icmp .ne 7, 3) := by decide +kernel
theorem dL_acts_350 : decode cL_acts 350 = .ok (.iconst 1, 1) := by decide +kernel
theorem dL_acts_351 : decode cL_acts 351 = .ok (.goto 4, 3) := by decide +kernel
theorem dL_acts_354 : decode cL_acts 354 = .ok (.iconst 0, 1) := by decide +kernel
theorem dL_acts_355 : decode cL_acts 355 = .ok (.ireturn, 1) := by decide +kernel
theorem dL_acts_356 : decode cL_acts 356 = .ok (.iload 7, 2) := by decide +kernel
theorem dL_acts_358 : decode cL_acts 358 = .ok (.bipush 12, 2) := by decide +kernel
theorem dL_acts_360 : decode cL_acts 360 = .ok (.if_icmp .ge 89, 3) := by decide +kernel
theorem dL_acts_363 : decode cL_acts 363 = .ok (.iload 6, 2) := by decide +kernel
theorem dL_acts_365 : decode cL_acts 365 = .ok (.iconst 4, 1) := by decide +kernel
theorem dL_acts_366 : decode cL_acts 366 = .ok (.irem, 1) := by decide +kernel
theorem dL_acts_367 : decode cL_acts 367 = .ok (.istore 8, 2) := by decide +kernel
theorem dL_acts_369 : decode cL_acts 369 = .ok (.iload 8, 2) := by decide +kernel
theorem dL_acts_371 : decode cL_acts 371 = .ok (.aload_n 1, 1) := by decide +kernel
theorem dL_acts_372 : decode cL_acts 372 = .ok (.iconst 2, 1) := by decide +kernel
theorem dL_acts_373 : decode cL_acts 373 = .ok (.iaload, 1) := by decide +kernel
theorem dL_acts_374 : decode cL_acts 374 = .ok (.if_icmp .lt 20, 3) := by decide +kernel
theorem dL_acts_377 : decode cL_acts 377 = .ok (.aload_n 0, 1) := by decide +kernel
theorem dL_acts_378 : decode cL_acts 378 = .ok (.iload 8, 2) := by decide +kernel
theorem dL_acts_380 : decode cL_acts 380 = .ok (.invokestatic 82, 3) := by decide +kernel
theorem dL_acts_383 : decode cL_acts 383 = .ok (.ldc 27, 2) := by decide +kernel
theorem dL_acts_385 : decode cL_acts 385 = .ok (.if_icmp .ne 7, 3) := by decide +kernel
theorem dL_acts_388 : decode cL_acts 388 = .ok (.iconst 1, 1) := by decide +kernel
theorem dL_acts_389 : decode cL_acts 389 = .ok (.goto 4, 3) := by decide +kernel
theorem dL_acts_392 : decode cL_acts 392 = .ok (.iconst 0, 1) := by decide +kernel
theorem dL_acts_393 : decode cL_acts 393 = .ok (.ireturn, 1) := by decide +kernel
theorem dL_acts_394 : decode cL_acts 394 = .ok (.aload_n 1, 1) := by decide +kernel
theorem dL_acts_395 : decode cL_acts 395 = .ok (.iconst 2, 1) := by decide +kernel
theorem dL_acts_396 : decode cL_acts 396 = .ok (.dup2, 1) := by decide +kernel
theorem dL_acts_397 : decode cL_acts 397 = .ok (.iaload, 1) := by decide +kernel
theorem dL_acts_398 : decode cL_acts 398 = .ok (.iconst 1, 1) := by decide +kernel
theorem dL_acts_399 : decode cL_acts 399 = .ok (.isub, 1) := by decide +kernel
theorem dL_acts_400 : decode cL_acts 400 = .ok (.iastore, 1) := by decide +kernel
theorem dL_acts_401 : decode cL_acts 401 = .ok (.iload 8, 2) := by decide +kernel
theorem dL_acts_403 : decode cL_acts 403 = .ok (.istore 9, 2) := by decide +kernel
theorem dL_acts_405 : decode cL_acts 405 = .ok (.iload 9, 2) := by decide +kernel
theorem dL_acts_407 : decode cL_acts 407 = .ok (.aload_n 1, 1) := by decide +kernel
theorem dL_acts_408 : decode cL_acts 408 = .ok (.iconst 2, 1) := by decide +kernel
theorem dL_acts_409 : decode cL_acts 409 = .ok (.iaload, 1) := by decide +kernel
theorem dL_acts_410 : decode cL_acts 410 = .ok (.if_icmp .ge 21, 3) := by decide +kernel
theorem dL_acts_413 : decode cL_acts 413 = .ok (.aload 4, 2) := by decide +kernel
theorem dL_acts_415 : decode cL_acts 415 = .ok (.iload 9, 2) := by decide +kernel
theorem dL_acts_417 : decode cL_acts 417 = .ok (.aload 4, 2) := by decide +kernel
theorem dL_acts_419 : decode cL_acts 419 = .ok (.iload 9, 2) := by decide +kernel
theorem dL_acts_421 : decode cL_acts 421 = .ok (.iconst 1, 1) := by decide +kernel
theorem dL_acts_422 : decode cL_acts 422 = .ok (.iadd, 1) := by decide +kernel
theorem dL_acts_423 : decode cL_acts 423 = .ok (.iaload, 1) := by decide +kernel
theorem dL_acts_424 : decode cL_acts 424 = .ok (.iastore, 1) := by decide +kernel
theorem dL_acts_425 : decode cL_acts 425 = .ok (.iinc 9 1, 3) := by decide +kernel
theorem dL_acts_428 : decode cL_acts 428 = .ok (.goto (-23), 3) := by decide +kernel
theorem dL_acts_431 : decode cL_acts 431 = .ok (.aload_n 0, 1) := by decide +kernel
theorem dL_acts_432 : decode cL_acts 432 = .ok (.iload 8, 2) := by decide +kernel
theorem dL_acts_434 : decode cL_acts 434 = .ok (.invokestatic 82, 3) := by decide +kernel
theorem dL_acts_437 : decode cL_acts 437 = .ok (.aload_n 1, 1) := by decide +kernel
theorem dL_acts_438 : decode cL_acts 438 = .ok (.iconst 2, 1) := by decide +kernel
theorem dL_acts_439 : decode cL_acts 439 = .ok (.iaload, 1) := by decide +kernel
theorem dL_acts_440 : decode cL_acts 440 = .ok (.if_icmp .ne 7, 3) := by decide +kernel
theorem dL_acts_443 : decode cL_acts 443 = .ok (.iconst 1, 1) := by decide +kernel
theorem dL_acts_444 : decode cL_acts 444 = .ok (.goto 4, 3) := by decide +kernel
theorem dL_acts_447 : decode cL_acts 447 = .ok (.iconst 0, 1) := by decide +kernel
theorem dL_acts_448 : decode cL_acts 448 = .ok (.ireturn, 1) := by decide +kernel
theorem dL_acts_449 : decode cL_acts 449 = .ok (.aload_n 1, 1) := by decide +kernel
theorem dL_acts_450 : decode cL_acts 450 = .ok (.iconst 0, 1) := by decide +kernel
theorem dL_acts_451 : decode cL_acts 451 = .ok (.iaload, 1) := by decide +kernel
theorem dL_acts_452 : decode cL_acts 452 = .ok (.ifCond .ne 41, 3) := by decide +kernel
theorem dL_acts_455 : decode cL_acts 455 = .ok (.aload_n 0, 1) := by decide +kernel
theorem dL_acts_456 : decode cL_acts 456 = .ok (.iconst 0, 1) := by decide +kernel
theorem dL_acts_457 : decode cL_acts 457 = .ok (.iconst 1, 1) := by decide +kernel
theorem dL_acts_458 : decode cL_acts 458 = .ok (.invokestatic 85, 3) := by decide +kernel
theorem dL_acts_461 : decode cL_acts 461 = .ok (.ldc 27, 2) := by decide +kernel
theorem dL_acts_463 : decode cL_acts 463 = .ok (.if_icmp .ne 28, 3) := by decide +kernel
theorem dL_acts_466 : decode cL_acts 466 = .ok (.aload_n 0, 1) := by decide +kernel
theorem dL_acts_467 : decode cL_acts 467 = .ok (.iconst 0, 1) := by decide +kernel
theorem dL_acts_468 : decode cL_acts 468 = .ok (.iconst 0, 1) := by decide +kernel
theorem dL_acts_469 : decode cL_acts 469 = .ok (.invokestatic 88, 3) := by decide +kernel
theorem dL_acts_472 : decode cL_acts 472 = .ok (.ldc 27, 2) := by decide +kernel
theorem dL_acts_474 : decode cL_acts 474 = .ok (.if_icmp .ne 17, 3) := by decide +kernel
theorem dL_acts_477 : decode cL_acts 477 = .ok (.aload_n 0, 1) := by decide +kernel
theorem dL_acts_478 : decode cL_acts 478 = .ok (.iconst 0, 1) := by decide +kernel
theorem dL_acts_479 : decode cL_acts 479 = .ok (.invokestatic 91, 3) := by decide +kernel
theorem dL_acts_482 : decode cL_acts 482 = .ok (.ldc 27, 2) := by decide +kernel
theorem dL_acts_484 : decode cL_acts 484 = .ok (.if_icmp .ne 7, 3) := by decide +kernel
theorem dL_acts_487 : decode cL_acts 487 = .ok (.iconst 1, 1) := by decide +kernel
theorem dL_acts_488 : decode cL_acts 488 = .ok (.goto 4, 3) := by decide +kernel
theorem dL_acts_491 : decode cL_acts 491 = .ok (.iconst 0, 1) := by decide +kernel
theorem dL_acts_492 : decode cL_acts 492 = .ok (.ireturn, 1) := by decide +kernel
theorem dL_acts_493 : decode cL_acts 493 = .ok (.iload 6, 2) := by decide +kernel
theorem dL_acts_495 : decode cL_acts 495 = .ok (.aload_n 1, 1) := by decide +kernel
theorem dL_acts_496 : decode cL_acts 496 = .ok (.iconst 0, 1) := by decide +kernel
theorem dL_acts_497 : decode cL_acts 497 = .ok (.iaload, 1) := by decide +kernel
theorem dL_acts_498 : decode cL_acts 498 = .ok (.irem, 1) := by decide +kernel
theorem dL_acts_499 : decode cL_acts 499 = .ok (.istore 8, 2) := by decide +kernel
theorem dL_acts_501 : decode cL_acts 501 = .ok (.iload 7, 2) := by decide +kernel
theorem dL_acts_503 : decode cL_acts 503 = .ok (.bipush 15, 2) := by decide +kernel
theorem dL_acts_505 : decode cL_acts 505 = .ok (.if_icmp .ge 54, 3) := by decide +kernel
theorem dL_acts_508 : decode cL_acts 508 = .ok (.aload_n 2, 1) := by decide +kernel
theorem dL_acts_509 : decode cL_acts 509 = .ok (.iload 8, 2) := by decide +kernel
theorem dL_acts_511 : decode cL_acts 511 = .ok (.iaload, 1) := by decide +kernel
theorem dL_acts_512 : decode cL_acts 512 = .ok (.istore 9, 2) := by decide +kernel
theorem dL_acts_514 : decode cL_acts 514 = .ok (.aload_n 2, 1) := by decide +kernel
theorem dL_acts_515 : decode cL_acts 515 = .ok (.iload 8, 2) := by decide +kernel
theorem dL_acts_517 : decode cL_acts 517 = .ok (.iload 6, 2) := by decide +kernel
theorem dL_acts_519 : decode cL_acts 519 = .ok (.bipush 8, 2) := by decide +kernel
theorem dL_acts_521 : decode cL_acts 521 = .ok (.idiv, 1) := by decide +kernel
theorem dL_acts_522 : decode cL_acts 522 = .ok (.iload 6, 2) := by decide +kernel
theorem dL_acts_524 : decode cL_acts 524 = .ok (.iconst 5, 1) := by decide +kernel
theorem dL_acts_525 : decode cL_acts 525 = .ok (.irem, 1) := by decide +kernel
theorem dL_acts_526 : decode cL_acts 526 = .ok (.ifCond .ne 8, 3) := by decide +kernel
theorem dL_acts_529 : decode cL_acts 529 = .ok (.bipush 51, 2) := by decide +kernel
theorem dL_acts_531 : decode cL_acts 531 = .ok (.goto 5, 3) := by decide +kernel
theorem dL_acts_534 : decode cL_acts 534 = .ok (.bipush 6, 2) := by decide +kernel
theorem dL_acts_536 : decode cL_acts 536 = .ok (.irem, 1) := by decide +kernel
theorem dL_acts_537 : decode cL_acts 537 = .ok (.iastore, 1) := by decide +kernel
theorem dL_acts_538 : decode cL_acts 538 = .ok (.aload_n 0, 1) := by decide +kernel
theorem dL_acts_539 : decode cL_acts 539 = .ok (.iload 8, 2) := by decide +kernel
theorem dL_acts_541 : decode cL_acts 541 = .ok (.aload_n 2, 1) := by decide +kernel
theorem dL_acts_542 : decode cL_acts 542 = .ok (.iload 8, 2) := by decide +kernel
theorem dL_acts_544 : decode cL_acts 544 = .ok (.iaload, 1) := by decide +kernel
theorem dL_acts_545 : decode cL_acts 545 = .ok (.invokestatic 85, 3) := by decide +kernel
theorem dL_acts_548 : decode cL_acts 548 = .ok (.iload 9, 2) := by decide +kernel
theorem dL_acts_550 : decode cL_acts 550 = .ok (.if_icmp .ne 7, 3) := by decide +kernel
theorem dL_acts_553 : decode cL_acts 553 = .ok (.iconst 1, 1) := by decide +kernel
theorem dL_acts_554 : decode cL_acts 554 = .ok (.goto 4, 3) := by decide +kernel
theorem dL_acts_557 : decode cL_acts 557 = .ok (.iconst 0, 1) := by decide +kernel
theorem dL_acts_558 : decode cL_acts 558 = .ok (.ireturn, 1) := by decide +kernel
theorem dL_acts_559 : decode cL_acts 559 = .ok (.iload 7, 2) := by decide +kernel
theorem dL_acts_561 : decode cL_acts 561 = .ok (.bipush 18, 2) := by decide +kernel
theorem dL_acts_563 : decode cL_acts 563 = .ok (.if_icmp .ge 181, 3) := by decide +kernel
theorem dL_acts_566 : decode cL_acts 566 = .ok (.iload 6, 2) := by decide +kernel
theorem dL_acts_568 : decode cL_acts 568 = .ok (.bipush 8, 2) := by decide +kernel
theorem dL_acts_570 : decode cL_acts 570 = .ok (.idiv, 1) := by decide +kernel
theorem dL_acts_571 : decode cL_acts 571 = .ok (.aload_n 1, 1) := by decide +kernel
theorem dL_acts_572 : decode cL_acts 572 = .ok (.iconst 0, 1) := by decide +kernel
theorem dL_acts_573 : decode cL_acts 573 = .ok (.iaload, 1) := by decide +kernel
theorem dL_acts_574 : decode cL_acts 574 = .ok (.irem, 1) := by decide +kernel
theorem dL_acts_575 : decode cL_acts 575 = .ok (.istore 9, 2) := by decide +kernel
theorem dL_acts_577 : decode cL_acts 577 = .ok (.iload 8, 2) := by decide +kernel
theorem dL_acts_579 : decode cL_acts 579 = .ok (.iload 9, 2) := by decide +kernel
theorem dL_acts_581 : decode cL_acts 581 = .ok (.if_icmp .ne 22, 3) := by decide +kernel
theorem dL_acts_584 : decode cL_acts 584 = .ok (.aload_n 0, 1) := by decide +kernel
theorem dL_acts_585 : decode cL_acts 585 = .ok (.iload 8, 2) := by decide +kernel
theorem dL_acts_587 : decode cL_acts 587 = .ok (.iload 9, 2) := by decide +kernel
theorem dL_acts_589 : decode cL_acts 589 = .ok (.invokestatic 88, 3) := by decide +kernel
theorem dL_acts_592 : decode cL_acts 592 = .ok (.ldc 17, 2) := by decide +kernel
theorem dL_acts_594 : decode cL_acts 594 = .ok (.if_icmp .ne 7, 3) := by decide +kernel
theorem dL_acts_597 : decode cL_acts 597 = .ok (.iconst 1, 1) := by decide +kernel
theorem dL_acts_598 : decode cL_acts 598 = .ok (.goto 4, 3) := by decide +kernel
theorem dL_acts_601 : decode cL_acts 601 = .ok (.iconst 0, 1) := by decide +kernel
theorem dL_acts_602 : decode cL_acts 602 = .ok (.ireturn, 1) := by decide +kernel
theorem dL_acts_603 : decode cL_acts 603 = .ok (.aload_n 3, 1) := by decide +kernel
theorem dL_acts_604 : decode cL_acts 604 = .ok (.iload 8, 2) := by decide +kernel
theorem dL_acts_606 : decode cL_acts 606 = .ok (.iaload, 1) := by decide +kernel
theorem dL_acts_607 : decode cL_acts 607 = .ok (.ifCond .ge 14, 3) := by decide +kernel
theorem dL_acts_610 : decode cL_acts 610 = .ok (.aload_n 3, 1) := by decide +kernel
theorem dL_acts_611 : decode cL_acts 611 = .ok (.iload 9, 2) := by decide +kernel
theorem dL_acts_613 : decode cL_acts 613 = .ok (.iaload, 1) := by decide +kernel
theorem dL_acts_614 : decode cL_acts 614 = .ok (.ifCond .ge 7, 3) := by decide +kernel
theorem dL_acts_617 : decode cL_acts 617 = .ok (.iconst 1, 1) := by decide +kernel
theorem dL_acts_618 : decode cL_acts 618 = .ok (.goto 4, 3) := by decide +kernel
theorem dL_acts_621 : decode cL_acts 621 = .ok (.iconst 0, 1) := by decide +kernel
theorem dL_acts_622 : decode cL_acts 622 = .ok (.istore 10, 2) := by decide +kernel
theorem dL_acts_624 : decode cL_acts 624 = .ok (.aload_n 2, 1) := by decide +kernel
theorem dL_acts_625 : decode cL_acts 625 = .ok (.iload 8, 2) := by decide +kernel
theorem dL_acts_627 : decode cL_acts 627 = .ok (.iaload, 1) := by decide +kernel
theorem dL_acts_628 : decode cL_acts 628 = .ok (.istore 11, 2) := by decide +kernel
theorem dL_acts_630 : decode cL_acts 630 = .ok (.iconst 0, 1) := by decide +kernel
theorem dL_acts_631 : decode cL_acts 631 = .ok (.istore 12, 2) := by decide +kernel
theorem dL_acts_633 : decode cL_acts 633 = .ok (.iload 12, 2) := by decide +kernel
theorem dL_acts_635 : decode cL_acts 635 = .ok (.aload_n 1, 1) := by decide +kernel
theorem dL_acts_636 : decode cL_acts 636 = .ok (.iconst 0, 1) := by decide +kernel
theorem dL_acts_637 : decode cL_acts 637 = .ok (.iaload, 1) := by decide +kernel
theorem dL_acts_638 : decode cL_acts 638 = .ok (.if_icmp .ge 59, 3) := by decide +kernel
theorem dL_acts_641 : decode cL_acts 641 = .ok (.iload 10, 2) := by decide +kernel
theorem dL_acts_643 : decode cL_acts 643 = .ok (.ifCond .eq 16, 3) := by decide +kernel
theorem dL_acts_646 : decode cL_acts 646 = .ok (.aload_n 3, 1) := by decide +kernel
theorem dL_acts_647 : decode cL_acts 647 = .ok (.iload 12, 2) := by decide +kernel
theorem dL_acts_649 : decode cL_acts 649 = .ok (.iaload, 1) := by decide +kernel
theorem dL_acts_650 : decode cL_acts 650 = .ok (.iload 8, 2) := by decide +kernel
theorem dL_acts_652 : decode cL_acts 652 = .ok (.if_icmp .eq 7, 3) := by decide +kernel
theorem dL_acts_655 : decode cL_acts 655 = .ok (.iconst 1, 1) := by decide +kernel
theorem dL_acts_656 : decode cL_acts 656 = .ok (.goto 4, 3) := by decide +kernel
theorem dL_acts_659 : decode cL_acts 659 = .ok (.iconst 0, 1) := by decide +kernel
theorem dL_acts_660 : decode cL_acts 660 = .ok (.istore 10, 2) := by decide +kernel
theorem dL_acts_662 : decode cL_acts 662 = .ok (.iload 11, 2) := by decide +kernel
theorem dL_acts_664 : decode cL_acts 664 = .ok (.iload 12, 2) := by decide +kernel
theorem dL_acts_666 : decode cL_acts 666 = .ok (.iload 9, 2) := by decide +kernel
theorem dL_acts_668 : decode cL_acts 668 = .ok (.if_icmp .eq 12, 3) := by decide +kernel
theorem dL_acts_671 : decode cL_acts 671 = .ok (.aload_n 3, 1) := by decide +kernel
theorem dL_acts_672 : decode cL_acts 672 = .ok (.iload 12, 2) := by decide +kernel
theorem dL_acts_674 : decode cL_acts 674 = .ok (.iaload, 1) := by decide +kernel
theorem dL_acts_675 : decode cL_acts 675 = .ok (.iload 9, 2) := by decide +kernel
theorem dL_acts_677 : decode cL_acts 677 = .ok (.if_icmp .ne 10, 3) := by decide +kernel
theorem dL_acts_680 : decode cL_acts 680 = .ok (.aload_n 2, 1) := by decide +kernel
theorem dL_acts_681 : decode cL_acts 681 = .ok (.iload 12, 2) := by decide +kernel
theorem dL_acts_683 : decode cL_acts 683 = .ok (.iaload, 1) := by decide +kernel
theorem dL_acts_684 : decode cL_acts 684 = .ok (.goto 4, 3) := by decide +kernel
theorem dL_acts_687 : decode cL_acts 687 = .ok (.iconst 0, 1) := by decide +kernel
theorem dL_acts_688 : decode cL_acts 688 = .ok (.iadd, 1) := by decide +kernel
theorem dL_acts_689 : decode cL_acts 689 = .ok (.istore 11, 2) := by decide +kernel
theorem dL_acts_691 : decode cL_acts 691 = .ok (.iinc 12 1, 3) := by decide +kernel
theorem dL_acts_694 : decode cL_acts 694 = .ok (.goto (-61), 3) := by decide +kernel
theorem dL_acts_697 : decode cL_acts 697 = .ok (.aload_n 3, 1) := by decide +kernel
theorem dL_acts_698 : decode cL_acts 698 = .ok (.iload 8, 2) := by decide +kernel
theorem dL_acts_700 : decode cL_acts 700 = .ok (.iload 10, 2) := by decide +kernel
theorem dL_acts_702 : decode cL_acts 702 = .ok (.ifCond .eq 8, 3) := by decide +kernel
theorem dL_acts_705 : decode cL_acts 705 = .ok (.iload 9, 2) := by decide +kernel
theorem dL_acts_707 : decode cL_acts 707 = .ok (.goto 7, 3) := by decide +kernel
theorem dL_acts_710 : decode cL_acts 710 = .ok (.aload_n 3, 1) := by decide +kernel
theorem dL_acts_711 : decode cL_acts 711 = .ok (.iload 8, 2) := by decide +kernel
