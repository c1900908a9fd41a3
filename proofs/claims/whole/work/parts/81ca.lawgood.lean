set_option maxRecDepth 20000 in
theorem ggL_law_X7_gather_4 : GoodIn wsL_law wsX7_gather_r4 := goodIn_r _ [111, 102, 112, 315, 316, 317, 318, 293, 294, 295, 296, 319, 320, 321, 322, 323, 324, 325, 326, 99, 104, 327, 328, 329] (by decide +kernel) (by decide +kernel)
set_option maxRecDepth 20000 in
theorem ggL_law_X7_gather_5 : GoodIn wsL_law wsX7_gather_r5 := goodIn_r _ [330, 88, 89, 90, 331, 332, 103, 489, 490, 491, 492, 493, 494, 495, 496, 87, 108, 116, 497, 498, 499, 500, 501, 502] (by decide +kernel) (by decide +kernel)
set_option maxRecDepth 20000 in
theorem ggL_law_X7_gather_6 : GoodIn wsL_law wsX7_gather_r6 := goodIn_r _ [503, 504, 505] (by decide +kernel) (by decide +kernel)
set_option maxRecDepth 20000 in
theorem ggL_law_X7_gather_0 : GoodIn wsL_law wsX70 := goodIn_r _ [622, 623, 624, 625, 626, 627, 628, 629, 630, 631, 632, 633, 634, 635, 636, 637, 638, 639, 640, 641, 642, 643, 644, 645, 646, 647, 648, 649, 650, 651, 652, 653, 654, 655, 656, 657] (by decide +kernel) (by decide +kernel)
theorem ggL_law_X7_gather : GoodIn wsL_law wsX7_gather := goodIn_ca (goodIn_ca ggL_law_X7_gather_1 (goodIn_app ggL_law_X7_gather_2 (goodIn_app ggL_law_X7_gather_3 (goodIn_app ggL_law_X7_gather_4 (goodIn_app ggL_law_X7_gather_5 ggL_law_X7_gather_6))))) ggL_law_X7_gather_0
set_option maxRecDepth 20000 in
theorem gL_law_X7_gather : GoodIn wsL_law (wsV RL 85 RX7 yX7_gather wsX7_gather) := goodIn_app (goodIn_of _ (by decide +kernel)) ggL_law_X7_gather
set_option maxRecDepth 20000 in
theorem ggL_law_L_part : GoodIn wsL_law wsL_part := goodIn_ca (goodIn_ca (goodIn_r _ [508, 122, 509, 510, 511, 512, 2, 513, 514, 515, 193, 135, 136, 137, 138, 139, 140, 31, 664, 665, 666, 667, 668, 669, 670, 671, 672, 673, 674, 675, 676, 618, 619, 620, 621] (by decide +kernel) (by decide +kernel)) (goodIn_sub (fun _ h => List.mem_append_right _ h) (by decide +kernel))) (goodIn_sub (fun _ h => List.mem_append_left _ (List.mem_append_right _ h)) (by decide +kernel))
set_option maxRecDepth 20000 in
theorem gL_law_L_part : GoodIn wsL_law (va_wsS RL 86 yL_part wsL_part) := goodIn_app (goodIn_of _ (by decide +kernel)) ggL_law_L_part
set_option maxRecDepth 20000 in
theorem ggL_law_X7_part : GoodIn wsL_law wsX7_part := goodIn_r _ [519, 165, 85, 166, 167, 168, 5, 169, 117, 622, 623, 624, 625, 626, 627, 628, 629, 630, 631, 632, 633, 634, 635, 636, 637, 638, 639, 640, 641, 642, 643, 644, 645, 646, 647, 648, 649, 650, 651, 652, 653, 654, 655, 656, 657] (by decide +kernel) (by decide +kernel)
set_option maxRecDepth 20000 in
theorem gL_law_X7_part : GoodIn wsL_law (wsV RL 89 RX7 yX7_part wsX7_part) := goodIn_app (goodIn_of _ (by decide +kernel)) ggL_law_X7_part
set_option maxRecDepth 20000 in
theorem ggL_law_L_crash : GoodIn wsL_law wsL_crash := goodIn_ca (goodIn_ca (goodIn_r _ [522, 122, 123, 523, 524, 525, 2, 526, 128, 129, 130, 131, 29, 135, 136, 137, 138, 139, 140, 31, 527, 528, 529, 49, 530, 148, 421, 422, 423, 34, 424, 64, 425, 62, 245, 246, 60, 664, 665, 666, 667, 668, 669, 670, 671, 672, 673, 674, 675, 676, 618, 619, 620, 621, 677, 678, 658, 659, 660, 661, 662, 663] (by decide +kernel) (by decide +kernel)) (goodIn_sub (fun _ h => List.mem_append_left _ (List.mem_append_left _ (List.mem_append_right _ h))) (by decide +kernel))) (goodIn_sub (fun _ h => List.mem_append_left _ (List.mem_append_right _ h)) (by decide +kernel))
set_option maxRecDepth 20000 in
theorem gL_law_L_crash : GoodIn wsL_law (va_wsS RL 90 yL_crash wsL_crash) := goodIn_app (goodIn_of _ (by decide +kernel)) ggL_law_L_crash
