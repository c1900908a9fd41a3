set_option maxRecDepth 20000 in
theorem ggL_law_X7_crash : GoodIn wsL_law wsX7_crash := goodIn_r _ [534, 84, 165, 107, 86, 93, 166, 167, 168, 5, 169, 117, 285, 286, 287, 288, 108, 622, 623, 624, 625, 626, 627, 628, 629, 630, 631, 632, 633, 634, 635, 636, 637, 638, 639, 640, 641, 642, 643, 644, 645, 646, 647, 648, 649, 650, 651, 652, 653, 654, 655, 656, 657] (by decide +kernel) (by decide +kernel)
set_option maxRecDepth 20000 in
theorem gL_law_X7_crash : GoodIn wsL_law (wsV RL 93 RX7 yX7_crash wsX7_crash) := goodIn_app (goodIn_of _ (by decide +kernel)) ggL_law_X7_crash
set_option maxRecDepth 20000 in
theorem ggL_law_L_restart : GoodIn wsL_law wsL_restart := goodIn_ca (goodIn_ca (goodIn_r _ [537, 122, 123, 538, 539, 540, 2, 541, 128, 129, 130, 135, 136, 137, 138, 139, 140, 31, 664, 665, 666, 667, 668, 669, 670, 671, 672, 673, 674, 675, 676, 618, 619, 620, 621] (by decide +kernel) (by decide +kernel)) (goodIn_sub (fun _ h => List.mem_append_left _ (List.mem_append_left _ (List.mem_append_right _ h))) (by decide +kernel))) (goodIn_sub (fun _ h => List.mem_append_left _ (List.mem_append_right _ h)) (by decide +kernel))
set_option maxRecDepth 20000 in
theorem gL_law_L_restart : GoodIn wsL_law (va_wsS RL 94 yL_restart wsL_restart) := goodIn_app (goodIn_of _ (by decide +kernel)) ggL_law_L_restart
set_option maxRecDepth 20000 in
theorem ggL_law_X7_restart : GoodIn wsL_law wsX7_restart := goodIn_r _ [545, 84, 165, 166, 167, 168, 5, 169, 117, 622, 623, 624, 625, 626, 627, 628, 629, 630, 631, 632, 633, 634, 635, 636, 637, 638, 639, 640, 641, 642, 643, 644, 645, 646, 647, 648, 649, 650, 651, 652, 653, 654, 655, 656, 657] (by decide +kernel) (by decide +kernel)
set_option maxRecDepth 20000 in
theorem gL_law_X7_restart : GoodIn wsL_law (wsV RL 96 RX7 yX7_restart wsX7_restart) := goodIn_app (goodIn_of _ (by decide +kernel)) ggL_law_X7_restart
set_option maxRecDepth 20000 in
theorem ggL_law_L_about : GoodIn wsL_law wsL_about := goodIn_ca (goodIn_ca (goodIn_r _ [548, 122, 509, 549, 550, 551, 2, 552, 514, 515, 130, 193, 181, 389, 353, 131, 553, 554, 184, 403, 555, 405, 344, 420, 182, 388, 556, 135, 136, 137, 138, 139, 140, 31, 228, 229, 230, 34, 231, 60, 664, 665, 666, 667, 668, 669, 670, 671, 672, 673, 674, 675, 676, 658, 659, 660, 661, 662, 663, 677, 678, 679, 680, 681, 682, 683, 684, 685, 618, 619, 620, 621] (by decide +kernel) (by decide +kernel)) (goodIn_sub (fun _ h => List.mem_append_right _ h) (by decide +kernel))) (goodIn_sub (fun _ h => List.mem_append_left _ (List.mem_append_right _ h)) (by decide +kernel))
set_option maxRecDepth 20000 in
theorem gL_law_L_about : GoodIn wsL_law (va_wsS RL 97 yL_about wsL_about) := goodIn_app (goodIn_of _ (by decide +kernel)) ggL_law_L_about
set_option maxRecDepth 20000 in
theorem ggL_law_X7_about : GoodIn wsL_law wsX7_about := goodIn_r _ [560, 165, 86, 84, 85, 105, 106, 93, 97, 98, 89, 91, 92, 87, 99, 166, 167, 168, 5, 169, 117, 289, 290, 291, 292, 109, 293, 294, 295, 296, 114, 297, 298, 299, 300, 301, 302, 285, 286, 287, 288, 107, 108, 622, 623, 624, 625, 626, 627, 628, 629, 630, 631, 632, 633, 634, 635, 636, 637, 638, 639, 640, 641, 642, 643, 644, 645, 646, 647, 648, 649, 650, 651, 652, 653, 654, 655, 656, 657] (by decide +kernel) (by decide +kernel)
set_option maxRecDepth 20000 in
theorem gL_law_X7_about : GoodIn wsL_law (wsV RL 99 RX7 yX7_about wsX7_about) := goodIn_app (goodIn_of _ (by decide +kernel)) ggL_law_X7_about
set_option maxRecDepth 20000 in
theorem ggL_law_L_table : GoodIn wsL_law wsL_table := goodIn_ca (goodIn_r _ [563, 122, 564, 565, 566, 2, 567, 403, 568, 135, 136, 137, 138, 139, 140, 31, 141, 142, 143, 664, 665, 666, 667, 668, 669, 670, 671, 672, 673, 674, 675, 676, 679, 680, 681, 682, 683, 618, 619, 620, 621] (by decide +kernel) (by decide +kernel)) (goodIn_sub (fun _ h => List.mem_append_left _ (List.mem_append_right _ h)) (by decide +kernel))
set_option maxRecDepth 20000 in
theorem gL_law_L_table : GoodIn wsL_law (va_wsS RL 100 yL_table wsL_table) := goodIn_app (goodIn_of _ (by decide +kernel)) ggL_law_L_table
set_option maxRecDepth 20000 in
theorem ggL_law_X7_table : GoodIn wsL_law wsX7_table := goodIn_r _ [572, 165, 88, 166, 167, 168, 5, 169, 117, 622, 623, 624, 625, 626, 627, 628, 629, 630, 631, 632, 633, 634, 635, 636, 637, 638, 639, 640, 641, 642, 643, 644, 645, 646, 647, 648, 649, 650, 651, 652, 653, 654, 655, 656, 657] (by decide +kernel) (by decide +kernel)
set_option maxRecDepth 20000 in
theorem gL_law_X7_table : GoodIn wsL_law (wsV RL 102 RX7 yX7_table wsX7_table) := goodIn_app (goodIn_of _ (by decide +kernel)) ggL_law_X7_table
