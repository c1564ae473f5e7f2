set_option maxRecDepth 20000 in
theorem gb_isSo_0 : GoodIn wsL_law [.code yL_isSo cL_isSo 24 (some .boolean)] := goodIn_sub (fun w hw => by rw [List.mem_singleton.mp hw]; exact List.mem_of_getElem? (i := 76) rfl) rfl
set_option maxRecDepth 20000 in
theorem gb_isSo_r1 : GoodIn wsL_law wsL_isSo_r1 := goodIn_r _ [5, 77, 78, 79, 80, 75, 81, 82, 83, 84, 85, 86, 87, 88, 89, 90, 91, 92, 93, 94, 95, 96, 97, 98] (by decide +kernel) (by decide +kernel)
set_option maxRecDepth 20000 in
theorem gb_isSo_r2 : GoodIn wsL_law wsL_isSo_r2 := goodIn_r _ [99, 100, 101, 102, 103, 104, 2, 105, 106, 107, 108, 109, 110, 111, 112, 113, 114, 115, 116, 117, 118, 22, 21, 17] (by decide +kernel) (by decide +kernel)
set_option maxRecDepth 20000 in
theorem gb_isSo_r3 : GoodIn wsL_law wsL_isSo_r3 := goodIn_r _ [119, 120, 121, 20, 122, 123, 124, 125, 126, 127, 128, 56, 57, 129, 130, 131, 16, 132, 133, 134, 135, 136, 137, 40] (by decide +kernel) (by decide +kernel)
set_option maxRecDepth 20000 in
theorem gb_isSo_r4 : GoodIn wsL_law wsL_isSo_r4 := goodIn_r _ [138, 139, 140, 141, 142, 143, 144, 38, 145, 48, 146, 147, 148, 149, 53, 150, 151, 152, 153, 154, 155, 156, 157, 158] (by decide +kernel) (by decide +kernel)
set_option maxRecDepth 20000 in
theorem gb_isSo_r5 : GoodIn wsL_law wsL_isSo_r5 := goodIn_r _ [159, 160, 161, 162, 163, 164, 165, 166, 54, 167, 168, 169, 170, 171, 172, 173, 174, 175, 176, 177, 178, 179, 43, 42] (by decide +kernel) (by decide +kernel)
set_option maxRecDepth 20000 in
theorem gb_isSo_r6 : GoodIn wsL_law wsL_isSo_r6 := goodIn_r _ [180, 181, 182, 183, 184, 185, 186, 187, 188, 189, 190, 191, 192, 39, 193, 194, 195, 196, 197, 198, 199, 200, 201, 202] (by decide +kernel) (by decide +kernel)
set_option maxRecDepth 20000 in
theorem gb_isSo_r7 : GoodIn wsL_law wsL_isSo_r7 := goodIn_r _ [203, 204, 55, 205, 206, 207, 208, 209, 210, 211, 212, 213, 214, 215, 216, 217, 218, 219, 220, 221, 222, 223, 224, 225] (by decide +kernel) (by decide +kernel)
set_option maxRecDepth 20000 in
theorem gb_isSo_r8 : GoodIn wsL_law wsL_isSo_r8 := goodIn_r _ [226, 227, 228, 229, 230, 231, 232, 233, 234, 235, 236, 237, 238, 239, 240, 241, 242, 243, 244, 245, 6, 246, 247, 248] (by decide +kernel) (by decide +kernel)
set_option maxRecDepth 20000 in
theorem gb_isSo_r9 : GoodIn wsL_law wsL_isSo_r9 := goodIn_r _ [249, 250, 251, 252, 253, 254, 255, 256, 257, 258, 259, 260, 261, 262, 263, 264, 265, 266, 267, 268, 269, 270, 271, 272] (by decide +kernel) (by decide +kernel)
set_option maxRecDepth 20000 in
theorem gb_isSo_r10 : GoodIn wsL_law wsL_isSo_r10 := goodIn_r _ [273, 274, 275, 276, 277, 278, 279, 7, 280, 281, 282, 283, 284, 285, 286, 287, 288, 289, 290, 291, 292, 293, 294, 295] (by decide +kernel) (by decide +kernel)
set_option maxRecDepth 20000 in
theorem gb_isSo_r11 : GoodIn wsL_law wsL_isSo_r11 := goodIn_r _ [296, 297, 298, 299, 300, 301, 302, 303, 304, 305, 306, 307, 308, 309, 310, 311, 312, 313, 314, 315, 316, 317, 318, 319] (by decide +kernel) (by decide +kernel)
set_option maxRecDepth 20000 in
theorem gb_isSo_r12 : GoodIn wsL_law wsL_isSo_r12 := goodIn_r _ [320, 321, 322, 323, 324, 32, 325, 326, 327, 328, 41, 329, 330, 331, 332, 333, 334, 335, 336, 337] (by decide +kernel) (by decide +kernel)
set_option maxRecDepth 20000 in
theorem gb_isSo_wsX30 : GoodIn wsL_law wsX30 := goodIn_r _ [506, 507, 508, 509, 510, 511, 512, 513, 514, 515, 516, 517, 518] (by decide +kernel) (by decide +kernel)
set_option maxRecDepth 20000 in
theorem gb_isSo_wsX70 : GoodIn wsL_law wsX70 := goodIn_r _ [492, 493, 494, 495, 496, 497, 498] (by decide +kernel) (by decide +kernel)
set_option maxRecDepth 20000 in
theorem gb_isSo_wsX60 : GoodIn wsL_law wsX60 := goodIn_r _ [499, 500, 501, 502, 503, 504, 505] (by decide +kernel) (by decide +kernel)
set_option maxRecDepth 20000 in
theorem gb_isSo_wsX40 : GoodIn wsL_law wsX40 := goodIn_r _ [528] (by decide +kernel) (by decide +kernel)
set_option maxRecDepth 20000 in
theorem gb_isSo_wsX20 : GoodIn wsL_law wsX20 := goodIn_r _ [522, 523, 524, 525, 526, 527] (by decide +kernel) (by decide +kernel)
theorem gb_isSo : GoodIn wsL_law (.code yL_isSo cL_isSo 24 (some .boolean) :: ((wsL_isSo_r1 ++ (wsL_isSo_r2 ++ (wsL_isSo_r3 ++ (wsL_isSo_r4 ++ (wsL_isSo_r5 ++ (wsL_isSo_r6 ++ (wsL_isSo_r7 ++ (wsL_isSo_r8 ++ (wsL_isSo_r9 ++ (wsL_isSo_r10 ++ (wsL_isSo_r11 ++ wsL_isSo_r12))))))))))) ++ wsX30 ++ wsX70 ++ wsX60 ++ wsX40 ++ wsX20)) := (fun w h => (List.mem_cons.mp h).elim (fun e => gb_isSo_0 w (List.mem_singleton.mpr e)) (fun h => (goodIn_app (goodIn_app (goodIn_app (goodIn_app (goodIn_app (goodIn_app gb_isSo_r1 (goodIn_app gb_isSo_r2 (goodIn_app gb_isSo_r3 (goodIn_app gb_isSo_r4 (goodIn_app gb_isSo_r5 (goodIn_app gb_isSo_r6 (goodIn_app gb_isSo_r7 (goodIn_app gb_isSo_r8 (goodIn_app gb_isSo_r9 (goodIn_app gb_isSo_r10 (goodIn_app gb_isSo_r11 (gb_isSo_r12)))))))))))) gb_isSo_wsX30) gb_isSo_wsX70) gb_isSo_wsX60) gb_isSo_wsX40) gb_isSo_wsX20) w h))
theorem ggL_law_L_isSo : GoodIn wsL_law wsL_isSo := goodIn_ca (goodIn_ca (goodIn_ca gb_isSo (goodIn_sub (fun _ h => List.mem_append_left _ (List.mem_append_left _ (List.mem_append_right _ h))) (by decide +kernel))) (goodIn_sub (fun _ h => List.mem_append_left _ (List.mem_append_right _ h)) (by decide +kernel))) (goodIn_sub (fun _ h => List.mem_append_right _ h) (by decide +kernel))
set_option maxRecDepth 20000 in
theorem gL_law_L_isSo : GoodIn wsL_law (va_wsS RL 158 yL_isSo wsL_isSo) := goodIn_app (goodIn_of _ (by decide +kernel)) ggL_law_L_isSo
