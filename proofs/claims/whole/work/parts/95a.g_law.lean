/-! What the law calls finds its words among the law's. -/
set_option maxRecDepth 20000 in
theorem ggL_law_X2_init : GoodIn wsL_law wsX2_init := goodIn_r _ [9, 10, 11, 12, 13, 14, 15, 16, 17, 18, 19, 20, 21, 22, 23, 24, 25, 26, 27, 28, 29, 30, 31, 32, 33, 34, 35, 36, 37, 38, 39, 40, 41, 42, 43, 44, 45, 46, 47, 48, 49, 50, 51, 6, 52, 53, 54, 55, 56, 57, 58, 59, 60, 61, 62, 701, 702, 703, 665, 666, 667, 668, 669, 670, 671, 672, 673, 674, 675, 676, 677, 678, 679, 704, 705, 706, 707, 708, 709, 710, 711, 712, 713, 714, 715, 716] (by decide +kernel) (by decide +kernel)
set_option maxRecDepth 20000 in
theorem gL_law_X2_init : GoodIn wsL_law (wsX2_init) := ggL_law_X2_init
set_option maxRecDepth 20000 in
theorem ggL_law_X3_init : GoodIn wsL_law wsX3_init := goodIn_r _ [65, 66, 11, 12, 18, 67, 68, 69, 70, 71, 72, 73, 74, 75, 76, 77, 78, 79, 80, 81, 82, 680, 681, 682, 683, 684, 685, 686, 687, 688, 689, 690, 691, 692, 693, 694, 695, 696, 697, 698, 699, 700] (by decide +kernel) (by decide +kernel)
set_option maxRecDepth 20000 in
theorem gL_law_X3_init : GoodIn wsL_law (wsX3_init) := ggL_law_X3_init
set_option maxRecDepth 20000 in
theorem ggL_law_L_heap : GoodIn wsL_law wsL_heap := goodIn_ca (goodIn_ca (goodIn_r _ [86, 87, 88, 89, 90, 91, 2, 92, 16, 93, 94, 95, 96, 97, 98, 34, 99, 100, 101, 102, 103, 104, 105, 106, 107, 108, 109, 15, 110, 41, 111, 112, 113, 114, 39, 40, 115, 665, 666, 667, 668, 669, 670, 671, 672, 673, 674, 675, 676, 677, 678, 679, 701, 702, 703] (by decide +kernel) (by decide +kernel)) (goodIn_sub (fun _ h => List.mem_append_left _ (List.mem_append_left _ (List.mem_append_right _ h))) (by decide +kernel))) (goodIn_sub (fun _ h => List.mem_append_left _ (List.mem_append_right _ h)) (by decide +kernel))
set_option maxRecDepth 20000 in
theorem gL_law_L_heap : GoodIn wsL_law (va_wsS RL 86 yL_heap wsL_heap) := goodIn_app (goodIn_of _ (by decide +kernel)) ggL_law_L_heap
set_option maxRecDepth 20000 in
theorem ggL_law_X3_heap : GoodIn wsL_law wsX3_heap := goodIn_r _ [119, 120, 67, 68, 121, 122, 5, 123, 124, 125, 126, 127, 128, 129, 130, 131, 680, 681, 682, 683, 684, 685, 686, 687, 688, 689, 690, 691, 692, 693, 694, 695, 696, 697, 698, 699, 700] (by decide +kernel) (by decide +kernel)
set_option maxRecDepth 20000 in
theorem gL_law_X3_heap : GoodIn wsL_law (wsV RL 91 RX3 yX3_heap wsX3_heap) := goodIn_app (goodIn_of _ (by decide +kernel)) ggL_law_X3_heap
set_option maxRecDepth 20000 in
theorem ggL_law_X3_thrown : GoodIn wsL_law wsX3_thrown := goodIn_r _ [135, 131, 680, 681, 682, 683, 684, 685, 686, 687, 688, 689, 690, 691, 692, 693, 694, 695, 696, 697, 698, 699, 700] (by decide +kernel) (by decide +kernel)
set_option maxRecDepth 20000 in
theorem gL_law_X3_thrown : GoodIn wsL_law (wsV RL 92 RX3 yX3_thrown wsX3_thrown) := goodIn_app (goodIn_of _ (by decide +kernel)) ggL_law_X3_thrown
set_option maxRecDepth 20000 in
theorem ggL_law_L_hole : GoodIn wsL_law wsL_hole := goodIn_ca (goodIn_ca (goodIn_r _ [138, 87, 88, 139, 140, 141, 2, 142, 17, 93, 94, 95, 96, 97, 98, 34, 99, 100, 101, 102, 103, 104, 105, 106, 107, 108, 109, 15, 110, 41, 111, 112, 113, 114, 39, 40, 115, 665, 666, 667, 668, 669, 670, 671, 672, 673, 674, 675, 676, 677, 678, 679, 701, 702, 703] (by decide +kernel) (by decide +kernel)) (goodIn_sub (fun _ h => List.mem_append_left _ (List.mem_append_left _ (List.mem_append_right _ h))) (by decide +kernel))) (goodIn_sub (fun _ h => List.mem_append_left _ (List.mem_append_right _ h)) (by decide +kernel))
set_option maxRecDepth 20000 in
theorem gL_law_L_hole : GoodIn wsL_law (va_wsS RL 95 yL_hole wsL_hole) := goodIn_app (goodIn_of _ (by decide +kernel)) ggL_law_L_hole
set_option maxRecDepth 20000 in
theorem ggL_law_X3_hole : GoodIn wsL_law wsX3_hole := goodIn_r _ [146, 147, 69, 70, 121, 122, 5, 123, 124, 125, 126, 127, 128, 129, 130, 131, 680, 681, 682, 683, 684, 685, 686, 687, 688, 689, 690, 691, 692, 693, 694, 695, 696, 697, 698, 699, 700] (by decide +kernel) (by decide +kernel)
set_option maxRecDepth 20000 in
theorem gL_law_X3_hole : GoodIn wsL_law (wsV RL 97 RX3 yX3_hole wsX3_hole) := goodIn_app (goodIn_of _ (by decide +kernel)) ggL_law_X3_hole
set_option maxRecDepth 20000 in
theorem ggL_law_L_alter : GoodIn wsL_law wsL_alter := goodIn_ca (goodIn_ca (goodIn_r _ [150, 151, 87, 152, 153, 154, 2, 155, 156, 157, 34, 158, 159, 160, 161, 162, 163, 164, 165, 166, 167, 17, 16, 168, 169, 170, 15, 171, 41, 99, 100, 101, 102, 103, 104, 105, 106, 701, 702, 703, 665, 666, 667, 668, 669, 670, 671, 672, 673, 674, 675, 676, 677, 678, 679] (by decide +kernel) (by decide +kernel)) (goodIn_sub (fun _ h => List.mem_append_right _ h) (by decide +kernel))) (goodIn_sub (fun _ h => List.mem_append_left _ (List.mem_append_right _ h)) (by decide +kernel))
set_option maxRecDepth 20000 in
theorem gL_law_L_alter : GoodIn wsL_law (va_wsS RL 98 yL_alter wsL_alter) := goodIn_app (goodIn_of _ (by decide +kernel)) ggL_law_L_alter
set_option maxRecDepth 20000 in
theorem ggL_law_X3_alter : GoodIn wsL_law wsX3_alter := goodIn_r _ [175, 70, 68, 69, 67, 176, 177, 178, 5, 179, 180, 181, 182, 183, 147, 124, 125, 126, 184, 185, 186, 187, 120, 121, 122, 123, 127, 128, 129, 130, 131, 680, 681, 682, 683, 684, 685, 686, 687, 688, 689, 690, 691, 692, 693, 694, 695, 696, 697, 698, 699, 700] (by decide +kernel) (by decide +kernel)
set_option maxRecDepth 20000 in
theorem gL_law_X3_alter : GoodIn wsL_law (wsV RL 101 RX3 yX3_alter wsX3_alter) := goodIn_app (goodIn_of _ (by decide +kernel)) ggL_law_X3_alter
