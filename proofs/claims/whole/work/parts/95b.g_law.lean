/-! What the law calls finds its words among the law's. -/
set_option maxRecDepth 20000 in
theorem ggL_law_L_measure : GoodIn wsL_law wsL_measure := goodIn_ca (goodIn_r _ [190, 87, 191, 192, 193, 2, 194, 31, 30, 34, 102, 103, 104, 105, 106, 665, 666, 667, 668, 669, 670, 671, 672, 673, 674, 675, 676, 677, 678, 679] (by decide +kernel) (by decide +kernel)) (goodIn_sub (fun _ h => List.mem_append_left _ (List.mem_append_right _ h)) (by decide +kernel))
set_option maxRecDepth 20000 in
theorem gL_law_L_measure : GoodIn wsL_law (va_wsS RL 102 yL_measure wsL_measure) := goodIn_app (goodIn_of _ (by decide +kernel)) ggL_law_L_measure
set_option maxRecDepth 20000 in
theorem ggL_law_X3_measure : GoodIn wsL_law wsX3_measure := goodIn_r _ [198, 199, 200, 124, 125, 5, 126, 127, 128, 129, 130, 131, 680, 681, 682, 683, 684, 685, 686, 687, 688, 689, 690, 691, 692, 693, 694, 695, 696, 697, 698, 699, 700] (by decide +kernel) (by decide +kernel)
set_option maxRecDepth 20000 in
theorem gL_law_X3_measure : GoodIn wsL_law (wsV RL 104 RX3 yX3_measure wsX3_measure) := goodIn_app (goodIn_of _ (by decide +kernel)) ggL_law_X3_measure
set_option maxRecDepth 20000 in
theorem ggL_law_L_own : GoodIn wsL_law wsL_own := goodIn_ca (goodIn_ca (goodIn_r _ [203, 151, 87, 204, 205, 206, 2, 207, 34, 19, 208, 209, 210, 211, 158, 159, 160, 161, 162, 163, 164, 165, 166, 167, 17, 16, 168, 169, 170, 15, 171, 41, 102, 103, 104, 105, 106, 212, 213, 214, 215, 216, 217, 665, 666, 667, 668, 669, 670, 671, 672, 673, 674, 675, 676, 677, 678, 679, 701, 702, 703] (by decide +kernel) (by decide +kernel)) (goodIn_sub (fun _ h => List.mem_append_right _ h) (by decide +kernel))) (goodIn_sub (fun _ h => List.mem_append_left _ (List.mem_append_right _ h)) (by decide +kernel))
set_option maxRecDepth 20000 in
theorem gL_law_L_own : GoodIn wsL_law (va_wsS RL 105 yL_own wsL_own) := goodIn_app (goodIn_of _ (by decide +kernel)) ggL_law_L_own
set_option maxRecDepth 20000 in
theorem ggL_law_X3_own : GoodIn wsL_law wsX3_own := goodIn_r _ [221, 71, 222, 223, 224, 5, 225, 184, 185, 186, 187, 120, 124, 125, 126, 180, 181, 182, 183, 147, 127, 128, 129, 130, 131, 680, 681, 682, 683, 684, 685, 686, 687, 688, 689, 690, 691, 692, 693, 694, 695, 696, 697, 698, 699, 700] (by decide +kernel) (by decide +kernel)
set_option maxRecDepth 20000 in
theorem gL_law_X3_own : GoodIn wsL_law (wsV RL 108 RX3 yX3_own wsX3_own) := goodIn_app (goodIn_of _ (by decide +kernel)) ggL_law_X3_own
set_option maxRecDepth 20000 in
theorem ggL_law_L_cap : GoodIn wsL_law wsL_cap := goodIn_ca (goodIn_ca (goodIn_r _ [228, 151, 87, 229, 230, 231, 2, 232, 34, 20, 208, 209, 210, 211, 158, 159, 160, 161, 162, 163, 164, 165, 166, 167, 17, 16, 168, 169, 170, 15, 171, 41, 102, 103, 104, 105, 106, 212, 213, 214, 215, 216, 217, 665, 666, 667, 668, 669, 670, 671, 672, 673, 674, 675, 676, 677, 678, 679, 701, 702, 703] (by decide +kernel) (by decide +kernel)) (goodIn_sub (fun _ h => List.mem_append_right _ h) (by decide +kernel))) (goodIn_sub (fun _ h => List.mem_append_left _ (List.mem_append_right _ h)) (by decide +kernel))
set_option maxRecDepth 20000 in
theorem gL_law_L_cap : GoodIn wsL_law (va_wsS RL 109 yL_cap wsL_cap) := goodIn_app (goodIn_of _ (by decide +kernel)) ggL_law_L_cap
set_option maxRecDepth 20000 in
theorem ggL_law_X3_cap : GoodIn wsL_law wsX3_cap := goodIn_r _ [236, 72, 222, 223, 224, 5, 225, 184, 185, 186, 187, 120, 124, 125, 126, 180, 181, 182, 183, 147, 127, 128, 129, 130, 131, 680, 681, 682, 683, 684, 685, 686, 687, 688, 689, 690, 691, 692, 693, 694, 695, 696, 697, 698, 699, 700] (by decide +kernel) (by decide +kernel)
set_option maxRecDepth 20000 in
theorem gL_law_X3_cap : GoodIn wsL_law (wsV RL 111 RX3 yX3_cap wsX3_cap) := goodIn_app (goodIn_of _ (by decide +kernel)) ggL_law_X3_cap
set_option maxRecDepth 20000 in
theorem ggL_law_L_terms : GoodIn wsL_law wsL_terms := goodIn_ca (goodIn_r _ [239, 87, 240, 241, 242, 2, 243, 32, 33, 34, 102, 103, 104, 105, 106, 665, 666, 667, 668, 669, 670, 671, 672, 673, 674, 675, 676, 677, 678, 679] (by decide +kernel) (by decide +kernel)) (goodIn_sub (fun _ h => List.mem_append_left _ (List.mem_append_right _ h)) (by decide +kernel))
set_option maxRecDepth 20000 in
theorem gL_law_L_terms : GoodIn wsL_law (va_wsS RL 112 yL_terms wsL_terms) := goodIn_app (goodIn_of _ (by decide +kernel)) ggL_law_L_terms
set_option maxRecDepth 20000 in
theorem ggL_law_X3_terms : GoodIn wsL_law wsX3_terms := goodIn_r _ [247, 74, 75, 124, 125, 5, 126, 127, 128, 129, 130, 131, 680, 681, 682, 683, 684, 685, 686, 687, 688, 689, 690, 691, 692, 693, 694, 695, 696, 697, 698, 699, 700] (by decide +kernel) (by decide +kernel)
set_option maxRecDepth 20000 in
theorem gL_law_X3_terms : GoodIn wsL_law (wsV RL 114 RX3 yX3_terms wsX3_terms) := goodIn_app (goodIn_of _ (by decide +kernel)) ggL_law_X3_terms
set_option maxRecDepth 20000 in
theorem ggL_law_L_unit : GoodIn wsL_law wsL_unit := goodIn_ca (goodIn_r _ [250, 151, 251, 252, 253, 2, 254, 208, 209, 210, 211, 158, 159, 160, 161, 162, 163, 164, 165, 166, 167, 17, 16, 168, 169, 170, 15, 171, 41, 255, 256, 257, 258, 19, 157, 212, 213, 214, 259, 260, 261, 262, 263, 264, 265, 266, 30, 31, 267, 268, 269, 665, 666, 667, 668, 669, 670, 671, 672, 673, 674, 675, 676, 677, 678, 679, 701, 702, 703] (by decide +kernel) (by decide +kernel)) (goodIn_sub (fun _ h => List.mem_append_right _ h) (by decide +kernel))
set_option maxRecDepth 20000 in
theorem gL_law_L_unit : GoodIn wsL_law (va_wsS RL 115 yL_unit wsL_unit) := goodIn_app (goodIn_of _ (by decide +kernel)) ggL_law_L_unit
