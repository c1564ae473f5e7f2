theorem wl_1 : ∀ w ∈ wsL_law0_r1, w ∈ lw_tbl := fun w h => (goodIn_p wsL_law0_r1 [93, 96] (by decide +kernel) (by decide +kernel) w h).1
theorem wl_2 : ∀ w ∈ wsL_law0_r2, w ∈ lw_tbl := fun w h => (goodIn_p wsL_law0_r2 [101, 107] (by decide +kernel) (by decide +kernel) w h).1
theorem wl_3 : ∀ w ∈ wsL_law0_r3, w ∈ lw_tbl := fun w h => (goodIn_p wsL_law0_r3 [145, 197, 217] (by decide +kernel) (by decide +kernel) w h).1
theorem wl_4 : ∀ w ∈ wsL_law0_r4, w ∈ lw_tbl := fun w h => (goodIn_p wsL_law0_r4 [989, 628] (by decide +kernel) (by decide +kernel) w h).1
theorem wl_5 : ∀ w ∈ wsL_law0_r5, w ∈ lw_tbl := fun w h => (goodIn_p wsL_law0_r5 [634, 396, 404, 407, 410] (by decide +kernel) (by decide +kernel) w h).1
theorem wl_6 : ∀ w ∈ wsL_law0_r6, w ∈ lw_tbl := fun w h => (goodIn_p wsL_law0_r6 [414, 418, 422, 426, 430, 294] (by decide +kernel) (by decide +kernel) w h).1
theorem wl_7 : ∀ w ∈ wsL_law0_r7, w ∈ lw_tbl := fun w h => (goodIn_p wsL_law0_r7 [435, 439, 443, 637] (by decide +kernel) (by decide +kernel) w h).1
theorem wl_8 : ∀ w ∈ wsL_law0_r8, w ∈ lw_tbl := fun w h => (goodIn_p wsL_law0_r8 [370, 386, 374, 378, 382, 447] (by decide +kernel) (by decide +kernel) w h).1
theorem wl_9 : ∀ w ∈ wsL_law0_r9, w ∈ lw_tbl := fun w h => (goodIn_p wsL_law0_r9 [451, 455, 459, 463, 467, 470] (by decide +kernel) (by decide +kernel) w h).1
theorem wl_10 : ∀ w ∈ wsL_law0_r10, w ∈ lw_tbl := fun w h => (goodIn_p wsL_law0_r10 [474, 478, 482, 1042, 1045, 1049] (by decide +kernel) (by decide +kernel) w h).1
theorem wl_11 : ∀ w ∈ wsL_law0_r11, w ∈ lw_tbl := fun w h => (goodIn_p wsL_law0_r11 [1053, 1038, 745, 1057] (by decide +kernel) (by decide +kernel) w h).1
theorem wl_12 : ∀ w ∈ wsL_law0_r12, w ∈ lw_tbl := fun w h => (goodIn_p wsL_law0_r12 [1061, 754, 1065, 763] (by decide +kernel) (by decide +kernel) w h).1
theorem wl_13 : ∀ w ∈ wsL_law0_r13, w ∈ lw_tbl := fun w h => (goodIn_p wsL_law0_r13 [1069, 1073, 1077, 1081, 1085, 1088, 1092] (by decide +kernel) (by decide +kernel) w h).1
theorem wl_14 : ∀ w ∈ wsL_law0_r14, w ∈ lw_tbl := fun w h => (goodIn_p wsL_law0_r14 [772, 1096, 781, 1100] (by decide +kernel) (by decide +kernel) w h).1
theorem wl_15 : ∀ w ∈ wsL_law0_r15, w ∈ lw_tbl := fun w h => (goodIn_p wsL_law0_r15 [1103, 790, 1107, 1111] (by decide +kernel) (by decide +kernel) w h).1
theorem wl_16 : ∀ w ∈ wsL_law0_r16, w ∈ lw_tbl := fun w h => (goodIn_p wsL_law0_r16 [799, 490, 494, 498] (by decide +kernel) (by decide +kernel) w h).1
theorem wl_17 : ∀ w ∈ wsL_law0_r17, w ∈ lw_tbl := fun w h => (goodIn_p wsL_law0_r17 [502, 506, 513, 517, 521] (by decide +kernel) (by decide +kernel) w h).1
theorem wl_18 : ∀ w ∈ wsL_law0_r18, w ∈ lw_tbl := fun w h => (goodIn_p wsL_law0_r18 [525, 528, 536, 540, 544, 548] (by decide +kernel) (by decide +kernel) w h).1
theorem wl_19 : ∀ w ∈ wsL_law0_r19, w ∈ lw_tbl := fun w h => (goodIn_p wsL_law0_r19 [554, 559, 594, 598, 602] (by decide +kernel) (by decide +kernel) w h).1
theorem wl_20 : ∀ w ∈ wsL_law0_r20, w ∈ lw_tbl := fun w h => (goodIn_p wsL_law0_r20 [586, 590, 1115, 1119, 1123, 1127] (by decide +kernel) (by decide +kernel) w h).1
theorem wl_21 : ∀ w ∈ wsL_law0_r21, w ∈ lw_tbl := fun w h => (goodIn_p wsL_law0_r21 [1131, 1134, 1138, 1142, 1146, 1149, 1153] (by decide +kernel) (by decide +kernel) w h).1
theorem wl_22 : ∀ w ∈ wsL_law0_r22, w ∈ lw_tbl := fun w h => (goodIn_p wsL_law0_r22 [1157, 1161, 808, 618] (by decide +kernel) (by decide +kernel) w h).1
theorem wl_23 : ∀ w ∈ wsL_law0_r23, w ∈ lw_tbl := fun w h => (goodIn_p wsL_law0_r23 [1165, 1169, 816, 568, 572] (by decide +kernel) (by decide +kernel) w h).1
theorem wl_24 : ∀ w ∈ wsL_law0_r24, w ∈ lw_tbl := fun w h => (goodIn_p wsL_law0_r24 [578, 582, 1173, 1177, 1181, 1185] (by decide +kernel) (by decide +kernel) w h).1
theorem wl_25 : ∀ w ∈ wsL_law0_r25, w ∈ lw_tbl := fun w h => (goodIn_p wsL_law0_r25 [1189, 1193, 823, 827, 1197] (by decide +kernel) (by decide +kernel) w h).1
theorem wl_26 : ∀ w ∈ wsL_law0_r26, w ∈ lw_tbl := fun w h => (goodIn_p wsL_law0_r26 [1201, 835, 1205, 842] (by decide +kernel) (by decide +kernel) w h).1
theorem wl_27 : ∀ w ∈ wsL_law0_r27, w ∈ lw_tbl := fun w h => (goodIn_p wsL_law0_r27 [606, 1209, 1213, 849, 614, 1217] (by decide +kernel) (by decide +kernel) w h).1
theorem wl_28 : ∀ w ∈ wsL_law0_r28, w ∈ lw_tbl := fun w h => (goodIn_p wsL_law0_r28 [1221, 856, 1225, 865] (by decide +kernel) (by decide +kernel) w h).1
theorem wl_29 : ∀ w ∈ wsL_law0_r29, w ∈ lw_tbl := fun w h => (goodIn_p wsL_law0_r29 [869, 873, 1229, 1233, 880] (by decide +kernel) (by decide +kernel) w h).1
theorem wl_30 : ∀ w ∈ wsL_law0_r30, w ∈ lw_tbl := fun w h => (goodIn_p wsL_law0_r30 [884, 1237, 892, 897, 901] (by decide +kernel) (by decide +kernel) w h).1
theorem wl_31 : ∀ w ∈ wsL_law0_r31, w ∈ lw_tbl := fun w h => (goodIn_p wsL_law0_r31 [905, 909, 1241, 916, 1245] (by decide +kernel) (by decide +kernel) w h).1
theorem wl_32 : ∀ w ∈ wsL_law0_r32, w ∈ lw_tbl := fun w h => (goodIn_p wsL_law0_r32 [924, 930, 933, 1249] (by decide +kernel) (by decide +kernel) w h).1
theorem wl_33 : ∀ w ∈ wsL_law0_r33, w ∈ lw_tbl := fun w h => (goodIn_p wsL_law0_r33 [941, 945, 949, 1253, 1257] (by decide +kernel) (by decide +kernel) w h).1
theorem wl_34 : ∀ w ∈ wsL_law0_r34, w ∈ lw_tbl := fun w h => (goodIn_p wsL_law0_r34 [956, 960, 1261, 967, 971] (by decide +kernel) (by decide +kernel) w h).1
theorem wl_35 : ∀ w ∈ wsL_law0_r35, w ∈ lw_tbl := fun w h => (goodIn_p wsL_law0_r35 [1265, 270, 1269, 274, 278] (by decide +kernel) (by decide +kernel) w h).1
theorem wl_36 : ∀ w ∈ wsL_law0_r36, w ∈ lw_tbl := fun w h => (goodIn_p wsL_law0_r36 [282, 286, 290, 298, 301, 305] (by decide +kernel) (by decide +kernel) w h).1
theorem wl_37 : ∀ w ∈ wsL_law0_r37, w ∈ lw_tbl := fun w h => (goodIn_p wsL_law0_r37 [311, 315, 319, 325, 329] (by decide +kernel) (by decide +kernel) w h).1
theorem wl_38 : ∀ w ∈ wsL_law0_r38, w ∈ lw_tbl := fun w h => (goodIn_p wsL_law0_r38 [332, 335, 340, 343, 346, 349] (by decide +kernel) (by decide +kernel) w h).1
theorem wl_39 : ∀ w ∈ wsL_law0_r39, w ∈ lw_tbl := fun w h => (goodIn_p wsL_law0_r39 [353, 363, 366, 390, 1273] (by decide +kernel) (by decide +kernel) w h).1
theorem wl_40 : ∀ w ∈ wsL_law0_r40, w ∈ lw_tbl := fun w h => (goodIn_p wsL_law0_r40 [1277, 1281, 1285, 1289, 1293] (by decide +kernel) (by decide +kernel) w h).1
theorem wl_41 : ∀ w ∈ wsL_law0_r41, w ∈ lw_tbl := fun w h => (goodIn_p wsL_law0_r41 [1298, 1301, 1305, 1309] (by decide +kernel) (by decide +kernel) w h).1
theorem wl_42 : ∀ w ∈ wsL_law0_r42, w ∈ lw_tbl := fun w h => (goodIn_p wsL_law0_r42 [979, 983, 1320, 486, 563, 609] (by decide +kernel) (by decide +kernel) w h).1
theorem wl_43 : ∀ w ∈ wsL_law0_r43, w ∈ lw_tbl := fun w h => (goodIn_p wsL_law0_r43 [1324, 1330] (by decide +kernel) (by decide +kernel) w h).1
theorem wlX7 : ∀ w ∈ wsX70, w ∈ lw_tbl := by decide +kernel
theorem wlX8 : ∀ w ∈ wsX80, w ∈ lw_tbl := by decide +kernel
theorem wlX6 : ∀ w ∈ wsX60, w ∈ lw_tbl := by decide +kernel
theorem wlX3 : ∀ w ∈ wsX30, w ∈ lw_tbl := by decide +kernel
theorem wlX5 : ∀ w ∈ wsX50, w ∈ lw_tbl := by decide +kernel
theorem wlX2 : ∀ w ∈ wsX20, w ∈ lw_tbl := by decide +kernel
theorem wlX4 : ∀ w ∈ wsX40, w ∈ lw_tbl := by decide +kernel
theorem wl_all : ∀ w ∈ (wsL_law0_r1 ++ (wsL_law0_r2 ++ (wsL_law0_r3 ++ (wsL_law0_r4 ++ (wsL_law0_r5 ++ (wsL_law0_r6 ++ (wsL_law0_r7 ++ (wsL_law0_r8 ++ (wsL_law0_r9 ++ (wsL_law0_r10 ++ (wsL_law0_r11 ++ (wsL_law0_r12 ++ (wsL_law0_r13 ++ (wsL_law0_r14 ++ (wsL_law0_r15 ++ (wsL_law0_r16 ++ (wsL_law0_r17 ++ (wsL_law0_r18 ++ (wsL_law0_r19 ++ (wsL_law0_r20 ++ (wsL_law0_r21 ++ (wsL_law0_r22 ++ (wsL_law0_r23 ++ (wsL_law0_r24 ++ (wsL_law0_r25 ++ (wsL_law0_r26 ++ (wsL_law0_r27 ++ (wsL_law0_r28 ++ (wsL_law0_r29 ++ (wsL_law0_r30 ++ (wsL_law0_r31 ++ (wsL_law0_r32 ++ (wsL_law0_r33 ++ (wsL_law0_r34 ++ (wsL_law0_r35 ++ (wsL_law0_r36 ++ (wsL_law0_r37 ++ (wsL_law0_r38 ++ (wsL_law0_r39 ++ (wsL_law0_r40 ++ (wsL_law0_r41 ++ (wsL_law0_r42 ++ (wsL_law0_r43))))))))))))))))))))))))))))))))))))))))))), w ∈ lw_tbl := fun w h => (List.mem_append.mp h).elim (fun h => wl_1 w h) (fun h => (List.mem_append.mp h).elim (fun h => wl_2 w h) (fun h => (List.mem_append.mp h).elim (fun h => wl_3 w h) (fun h => (List.mem_append.mp h).elim (fun h => wl_4 w h) (fun h => (List.mem_append.mp h).elim (fun h => wl_5 w h) (fun h => (List.mem_append.mp h).elim (fun h => wl_6 w h) (fun h => (List.mem_append.mp h).elim (fun h => wl_7 w h) (fun h => (List.mem_append.mp h).elim (fun h => wl_8 w h) (fun h => (List.mem_append.mp h).elim (fun h => wl_9 w h) (fun h => (List.mem_append.mp h).elim (fun h => wl_10 w h) (fun h => (List.mem_append.mp h).elim (fun h => wl_11 w h) (fun h => (List.mem_append.mp h).elim (fun h => wl_12 w h) (fun h => (List.mem_append.mp h).elim (fun h => wl_13 w h) (fun h => (List.mem_append.mp h).elim (fun h => wl_14 w h) (fun h => (List.mem_append.mp h).elim (fun h => wl_15 w h) (fun h => (List.mem_append.mp h).elim (fun h => wl_16 w h) (fun h => (List.mem_append.mp h).elim (fun h => wl_17 w h) (fun h => (List.mem_append.mp h).elim (fun h => wl_18 w h) (fun h => (List.mem_append.mp h).elim (fun h => wl_19 w h) (fun h => (List.mem_append.mp h).elim (fun h => wl_20 w h) (fun h => (List.mem_append.mp h).elim (fun h => wl_21 w h) (fun h => (List.mem_append.mp h).elim (fun h => wl_22 w h) (fun h => (List.mem_append.mp h).elim (fun h => wl_23 w h) (fun h => (List.mem_append.mp h).elim (fun h => wl_24 w h) (fun h => (List.mem_append.mp h).elim (fun h => wl_25 w h) (fun h => (List.mem_append.mp h).elim (fun h => wl_26 w h) (fun h => (List.mem_append.mp h).elim (fun h => wl_27 w h) (fun h => (List.mem_append.mp h).elim (fun h => wl_28 w h) (fun h => (List.mem_append.mp h).elim (fun h => wl_29 w h) (fun h => (List.mem_append.mp h).elim (fun h => wl_30 w h) (fun h => (List.mem_append.mp h).elim (fun h => wl_31 w h) (fun h => (List.mem_append.mp h).elim (fun h => wl_32 w h) (fun h => (List.mem_append.mp h).elim (fun h => wl_33 w h) (fun h => (List.mem_append.mp h).elim (fun h => wl_34 w h) (fun h => (List.mem_append.mp h).elim (fun h => wl_35 w h) (fun h => (List.mem_append.mp h).elim (fun h => wl_36 w h) (fun h => (List.mem_append.mp h).elim (fun h => wl_37 w h) (fun h => (List.mem_append.mp h).elim (fun h => wl_38 w h) (fun h => (List.mem_append.mp h).elim (fun h => wl_39 w h) (fun h => (List.mem_append.mp h).elim (fun h => wl_40 w h) (fun h => (List.mem_append.mp h).elim (fun h => wl_41 w h) (fun h => (List.mem_append.mp h).elim (fun h => wl_42 w h) (fun h => wl_43 w h))))))))))))))))))))))))))))))))))))))))))
theorem wsL_law_in0 : ∀ w ∈ wsL_law0, w ∈ lw_tbl := fun w h => (List.mem_append.mp h).elim (fun h => (List.mem_append.mp h).elim (fun h => (List.mem_append.mp h).elim (fun h => (List.mem_append.mp h).elim (fun h => (List.mem_append.mp h).elim (fun h => (List.mem_append.mp h).elim (fun h => (List.mem_append.mp h).elim (fun h => (List.mem_append.mp h).elim (fun h => wl_all w h) (fun h => wlX7 w h)) (fun h => wlX8 w h)) (fun h => wlX6 w h)) (fun h => wlX3 w h)) (fun h => wlX5 w h)) (fun h => wlX2 w h)) (fun h => wlX4 w h)) (fun h => absurd h List.not_mem_nil)
theorem wsL_law_x0 : ∀ w ∈ (vx_atS RX7 242 "java/lang/IndexOutOfBoundsException" ["java/lang/RuntimeException", "java/lang/Exception"]).filter goodWord, w ∈ lw_tbl := by decide +kernel
theorem wsL_law_x1 : ∀ w ∈ (vx_atS RX7 249 "java/lang/IllegalArgumentException" ["java/lang/RuntimeException", "java/lang/Exception"]).filter goodWord, w ∈ lw_tbl := by decide +kernel
theorem wsL_law_x2 : ∀ w ∈ (vx_atS RX7 254 "java/lang/IllegalStateException" ["java/lang/RuntimeException", "java/lang/Exception"]).filter goodWord, w ∈ lw_tbl := by decide +kernel
theorem wsL_law_in : ∀ w ∈ wsL_law, w ∈ lw_tbl := fun w h => (List.mem_append.mp h).elim (fun h => (List.mem_append.mp h).elim (fun h => (List.mem_append.mp h).elim (fun h => wsL_law_in0 w h) (fun h => wsL_law_x0 w h)) (fun h => wsL_law_x1 w h)) (fun h => wsL_law_x2 w h)
theorem inX0 : ∀ w ∈ wsX00, w ∈ lw_tbl := by decide +kernel
theorem inX1 : ∀ w ∈ wsX10, w ∈ lw_tbl := by decide +kernel
theorem inlX2 : ∀ w ∈ wsX20, w ∈ wsL_law := fun _ h => List.mem_append_left _ (List.mem_append_left _ (List.mem_append_left _ (List.mem_append_left _ (List.mem_append_left _ (List.mem_append_right _ h)))))
theorem inX2 : ∀ w ∈ wsX20, w ∈ lw_tbl := fun w h => wsL_law_in w (inlX2 w h)
theorem inlX3 : ∀ w ∈ wsX30, w ∈ wsL_law := fun _ h => List.mem_append_left _ (List.mem_append_left _ (List.mem_append_left _ (List.mem_append_left _ (List.mem_append_left _ (List.mem_append_left _ (List.mem_append_left _ (List.mem_append_right _ h)))))))
theorem inX3 : ∀ w ∈ wsX30, w ∈ lw_tbl := fun w h => wsL_law_in w (inlX3 w h)
theorem inlX4 : ∀ w ∈ wsX40, w ∈ wsL_law := fun _ h => List.mem_append_left _ (List.mem_append_left _ (List.mem_append_left _ (List.mem_append_left _ (List.mem_append_right _ h))))
theorem inX4 : ∀ w ∈ wsX40, w ∈ lw_tbl := fun w h => wsL_law_in w (inlX4 w h)
theorem inlX5 : ∀ w ∈ wsX50, w ∈ wsL_law := fun _ h => List.mem_append_left _ (List.mem_append_left _ (List.mem_append_left _ (List.mem_append_left _ (List.mem_append_left _ (List.mem_append_left _ (List.mem_append_right _ h))))))
theorem inX5 : ∀ w ∈ wsX50, w ∈ lw_tbl := fun w h => wsL_law_in w (inlX5 w h)
theorem inlX6 : ∀ w ∈ wsX60, w ∈ wsL_law := fun _ h => List.mem_append_left _ (List.mem_append_left _ (List.mem_append_left _ (List.mem_append_left _ (List.mem_append_left _ (List.mem_append_left _ (List.mem_append_left _ (List.mem_append_left _ (List.mem_append_right _ h))))))))
theorem inX6 : ∀ w ∈ wsX60, w ∈ lw_tbl := fun w h => wsL_law_in w (inlX6 w h)
theorem inlX7 : ∀ w ∈ wsX70, w ∈ wsL_law := fun _ h => List.mem_append_left _ (List.mem_append_left _ (List.mem_append_left _ (List.mem_append_left _ (List.mem_append_left _ (List.mem_append_left _ (List.mem_append_left _ (List.mem_append_left _ (List.mem_append_left _ (List.mem_append_left _ (List.mem_append_right _ h))))))))))
theorem inX7 : ∀ w ∈ wsX70, w ∈ lw_tbl := fun w h => wsL_law_in w (inlX7 w h)
theorem inlX8 : ∀ w ∈ wsX80, w ∈ wsL_law := fun _ h => List.mem_append_left _ (List.mem_append_left _ (List.mem_append_left _ (List.mem_append_left _ (List.mem_append_left _ (List.mem_append_left _ (List.mem_append_left _ (List.mem_append_left _ (List.mem_append_left _ (List.mem_append_right _ h)))))))))
theorem inX8 : ∀ w ∈ wsX80, w ∈ lw_tbl := fun w h => wsL_law_in w (inlX8 w h)
theorem inJx29ce0 : ∀ w ∈ wsJx29ce00, w ∈ lw_tbl := by decide +kernel
theorem inJ6 : ∀ w ∈ wsJ60, w ∈ lw_tbl := by decide +kernel
theorem inJ9 : ∀ w ∈ wsJ90, w ∈ lw_tbl := by decide +kernel
theorem inJ0 : ∀ w ∈ wsJ00, w ∈ lw_tbl := by decide +kernel
theorem inJ1 : ∀ w ∈ wsJ10, w ∈ lw_tbl := by decide +kernel
theorem inJ2 : ∀ w ∈ wsJ20, w ∈ lw_tbl := by decide +kernel
theorem inJ3 : ∀ w ∈ wsJ30, w ∈ lw_tbl := by decide +kernel
