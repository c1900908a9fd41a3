set_option maxRecDepth 20000 in
theorem ggL_law_X7_gather_1 : GoodIn wsL_law (.code yX7_gather cX7_gather 5 (some .int) :: wsX7_gather_r1) := goodIn_r _ [449, 84, 165, 166, 167, 168, 5, 169, 117, 450, 451, 452, 453, 85, 454, 455, 456, 457, 86, 106, 107, 458, 459, 460, 300] (by decide +kernel) (by decide +kernel)
set_option maxRecDepth 20000 in
theorem ggL_law_X7_gather_2 : GoodIn wsL_law wsX7_gather_r2 := goodIn_r _ [301, 302, 461, 462, 463, 464, 92, 465, 466, 467, 468, 91, 469, 470, 471, 472, 473, 474, 475, 476, 477, 478, 479, 480] (by decide +kernel) (by decide +kernel)
set_option maxRecDepth 20000 in
theorem ggL_law_X7_gather_3 : GoodIn wsL_law wsX7_gather_r3 := goodIn_r _ [481, 482, 483, 105, 484, 485, 486, 487, 98, 109, 114, 488, 97, 110, 297, 298, 299, 307, 308, 309, 310, 113, 100, 101] (by decide +kernel) (by decide +kernel)
