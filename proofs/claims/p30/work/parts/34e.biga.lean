set_option maxRecDepth 20000 in
theorem gb_acts_0 : GoodIn wsL_law [.code yL_acts cL_acts 13 (some .boolean)] := goodIn_sub (fun w hw => by rw [List.mem_singleton.mp hw]; exact List.mem_of_getElem? (i := 344) rfl) rfl
set_option maxRecDepth 20000 in
theorem gb_acts_r1 : GoodIn wsL_law wsL_acts_r1 := goodIn_r _ [345, 346, 5, 6, 347, 348, 75, 349, 4, 350, 351, 352, 101, 353, 354, 355, 356, 2, 357, 358, 359, 360, 361, 362] (by decide +kernel) (by decide +kernel)
set_option maxRecDepth 20000 in
theorem gb_acts_r2 : GoodIn wsL_law wsL_acts_r2 := goodIn_r _ [17, 28, 22, 363, 364, 365, 16, 366, 367, 133, 175, 368, 369, 370, 371, 372, 373, 374, 230, 231, 375, 376, 377, 378] (by decide +kernel) (by decide +kernel)
set_option maxRecDepth 20000 in
theorem gb_acts_r3 : GoodIn wsL_law wsL_acts_r3 := goodIn_r _ [251, 252, 253, 138, 139, 140, 141, 379, 380, 381, 382, 383, 384, 385, 386, 134, 135, 136, 137, 40, 142, 143, 144, 38] (by decide +kernel) (by decide +kernel)
set_option maxRecDepth 20000 in
theorem gb_acts_r4 : GoodIn wsL_law wsL_acts_r4 := goodIn_r _ [145, 48, 263, 155, 156, 157, 387, 388, 389, 390, 391, 307, 308, 309, 106, 107, 108, 109, 110, 111, 112, 113, 114, 392] (by decide +kernel) (by decide +kernel)
set_option maxRecDepth 20000 in
theorem gb_acts_r5 : GoodIn wsL_law wsL_acts_r5 := goodIn_r _ [393, 394, 27, 395, 396, 397, 398, 399, 400, 401, 402, 403, 404, 405, 66, 406, 407, 408, 409, 39, 41, 42, 43, 410] (by decide +kernel) (by decide +kernel)
set_option maxRecDepth 20000 in
theorem gb_acts_r6 : GoodIn wsL_law wsL_acts_r6 := goodIn_r _ [411, 412, 413, 414, 415, 416, 417, 418, 419, 420, 421, 422, 423, 160, 161, 162, 424, 425, 426, 427, 428, 429, 430, 431] (by decide +kernel) (by decide +kernel)
set_option maxRecDepth 20000 in
theorem gb_acts_r7 : GoodIn wsL_law wsL_acts_r7 := goodIn_r _ [264, 190, 191, 192, 187, 188, 432, 433, 434, 435, 436, 437, 438, 439, 440, 441, 442, 443, 444, 445, 446, 447, 448, 449] (by decide +kernel) (by decide +kernel)
set_option maxRecDepth 20000 in
theorem gb_acts_r8 : GoodIn wsL_law wsL_acts_r8 := goodIn_r _ [450, 451, 452, 453, 454, 455, 456, 457, 458, 459, 460, 461, 462, 245, 463, 464, 465, 466, 467, 468, 469, 470, 471, 472] (by decide +kernel) (by decide +kernel)
set_option maxRecDepth 20000 in
theorem gb_acts_r9 : GoodIn wsL_law wsL_acts_r9 := goodIn_r _ [473, 474, 475, 476, 477, 478, 479, 480, 481, 482, 483, 484, 485, 486, 487, 488, 489, 490, 491] (by decide +kernel) (by decide +kernel)
set_option maxRecDepth 20000 in
theorem gb_acts_wsX70 : GoodIn wsL_law wsX70 := goodIn_r _ [492, 493, 494, 495, 496, 497, 498] (by decide +kernel) (by decide +kernel)
set_option maxRecDepth 20000 in
theorem gb_acts_wsX60 : GoodIn wsL_law wsX60 := goodIn_r _ [499, 500, 501, 502, 503, 504, 505] (by decide +kernel) (by decide +kernel)
set_option maxRecDepth 20000 in
theorem gb_acts_wsX40 : GoodIn wsL_law wsX40 := goodIn_r _ [528] (by decide +kernel) (by decide +kernel)
set_option maxRecDepth 20000 in
theorem gb_acts_wsX50 : GoodIn wsL_law wsX50 := goodIn_r _ [519, 520, 521] (by decide +kernel) (by decide +kernel)
theorem gb_acts : GoodIn wsL_law (.code yL_acts cL_acts 13 (some .boolean) :: ((wsL_acts_r1 ++ (wsL_acts_r2 ++ (wsL_acts_r3 ++ (wsL_acts_r4 ++ (wsL_acts_r5 ++ (wsL_acts_r6 ++ (wsL_acts_r7 ++ (wsL_acts_r8 ++ wsL_acts_r9)))))))) ++ wsX70 ++ wsX60 ++ wsX40 ++ wsX50)) := (fun w h => (List.mem_cons.mp h).elim (fun e => gb_acts_0 w (List.mem_singleton.mpr e)) (fun h => (goodIn_app (goodIn_app (goodIn_app (goodIn_app (goodIn_app gb_acts_r1 (goodIn_app gb_acts_r2 (goodIn_app gb_acts_r3 (goodIn_app gb_acts_r4 (goodIn_app gb_acts_r5 (goodIn_app gb_acts_r6 (goodIn_app gb_acts_r7 (goodIn_app gb_acts_r8 (gb_acts_r9))))))))) gb_acts_wsX70) gb_acts_wsX60) gb_acts_wsX40) gb_acts_wsX50) w h))
theorem ggL_law_L_acts : GoodIn wsL_law wsL_acts := goodIn_ca (goodIn_ca (goodIn_ca gb_acts (goodIn_sub (fun _ h => List.mem_append_left _ (List.mem_append_left _ (List.mem_append_right _ h))) (by decide +kernel))) (goodIn_sub (fun _ h => List.mem_append_left _ (List.mem_append_right _ h)) (by decide +kernel))) (goodIn_sub (fun _ h => List.mem_append_right _ h) (by decide +kernel))
set_option maxRecDepth 20000 in
theorem gL_law_L_acts : GoodIn wsL_law (va_wsS RL 166 yL_acts wsL_acts) := goodIn_app (goodIn_of _ (by decide +kernel)) ggL_law_L_acts
