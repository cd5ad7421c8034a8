/-! What the law calls finds its words among the law's. -/
set_option maxRecDepth 20000 in
theorem ggL_law_L_measure : GoodIn wsL_law wsL_measure := goodIn_ca (goodIn_r _ [192, 89, 193, 194, 195, 2, 196, 31, 30, 34, 104, 105, 106, 107, 108, 667, 668, 669, 670, 671, 672, 673, 674, 675, 676, 677, 678, 679, 680, 681] (by decide +kernel) (by decide +kernel)) (goodIn_sub (fun _ h => List.mem_append_left _ (List.mem_append_right _ h)) (by decide +kernel))
set_option maxRecDepth 20000 in
theorem gL_law_L_measure : GoodIn wsL_law (va_wsS RL 102 yL_measure wsL_measure) := goodIn_app (goodIn_of _ (by decide +kernel)) ggL_law_L_measure
set_option maxRecDepth 20000 in
theorem ggL_law_X3_measure : GoodIn wsL_law wsX3_measure := goodIn_r _ [200, 201, 202, 126, 127, 5, 128, 129, 130, 131, 132, 133, 682, 683, 684, 685, 686, 687, 688, 689, 690, 691, 692, 693, 694, 695, 696, 697, 698, 699, 700, 701, 702] (by decide +kernel) (by decide +kernel)
set_option maxRecDepth 20000 in
theorem gL_law_X3_measure : GoodIn wsL_law (wsV RL 104 RX3 yX3_measure wsX3_measure) := goodIn_app (goodIn_of _ (by decide +kernel)) ggL_law_X3_measure
set_option maxRecDepth 20000 in
theorem ggL_law_L_own : GoodIn wsL_law wsL_own := goodIn_ca (goodIn_ca (goodIn_r _ [205, 153, 89, 206, 207, 208, 2, 209, 34, 19, 210, 211, 212, 213, 160, 161, 162, 163, 164, 165, 166, 167, 168, 169, 17, 16, 170, 171, 172, 15, 173, 41, 104, 105, 106, 107, 108, 214, 215, 216, 217, 218, 219, 667, 668, 669, 670, 671, 672, 673, 674, 675, 676, 677, 678, 679, 680, 681, 703, 704, 705] (by decide +kernel) (by decide +kernel)) (goodIn_sub (fun _ h => List.mem_append_right _ h) (by decide +kernel))) (goodIn_sub (fun _ h => List.mem_append_left _ (List.mem_append_right _ h)) (by decide +kernel))
set_option maxRecDepth 20000 in
theorem gL_law_L_own : GoodIn wsL_law (va_wsS RL 105 yL_own wsL_own) := goodIn_app (goodIn_of _ (by decide +kernel)) ggL_law_L_own
set_option maxRecDepth 20000 in
theorem ggL_law_X3_own : GoodIn wsL_law wsX3_own := goodIn_r _ [223, 73, 224, 225, 226, 5, 227, 186, 187, 188, 189, 122, 126, 127, 128, 182, 183, 184, 185, 149, 129, 130, 131, 132, 133, 682, 683, 684, 685, 686, 687, 688, 689, 690, 691, 692, 693, 694, 695, 696, 697, 698, 699, 700, 701, 702] (by decide +kernel) (by decide +kernel)
set_option maxRecDepth 20000 in
theorem gL_law_X3_own : GoodIn wsL_law (wsV RL 108 RX3 yX3_own wsX3_own) := goodIn_app (goodIn_of _ (by decide +kernel)) ggL_law_X3_own
set_option maxRecDepth 20000 in
theorem ggL_law_L_cap : GoodIn wsL_law wsL_cap := goodIn_ca (goodIn_ca (goodIn_r _ [230, 153, 89, 231, 232, 233, 2, 234, 34, 20, 210, 211, 212, 213, 160, 161, 162, 163, 164, 165, 166, 167, 168, 169, 17, 16, 170, 171, 172, 15, 173, 41, 104, 105, 106, 107, 108, 214, 215, 216, 217, 218, 219, 667, 668, 669, 670, 671, 672, 673, 674, 675, 676, 677, 678, 679, 680, 681, 703, 704, 705] (by decide +kernel) (by decide +kernel)) (goodIn_sub (fun _ h => List.mem_append_right _ h) (by decide +kernel))) (goodIn_sub (fun _ h => List.mem_append_left _ (List.mem_append_right _ h)) (by decide +kernel))
set_option maxRecDepth 20000 in
theorem gL_law_L_cap : GoodIn wsL_law (va_wsS RL 109 yL_cap wsL_cap) := goodIn_app (goodIn_of _ (by decide +kernel)) ggL_law_L_cap
set_option maxRecDepth 20000 in
theorem ggL_law_X3_cap : GoodIn wsL_law wsX3_cap := goodIn_r _ [238, 74, 224, 225, 226, 5, 227, 186, 187, 188, 189, 122, 126, 127, 128, 182, 183, 184, 185, 149, 129, 130, 131, 132, 133, 682, 683, 684, 685, 686, 687, 688, 689, 690, 691, 692, 693, 694, 695, 696, 697, 698, 699, 700, 701, 702] (by decide +kernel) (by decide +kernel)
set_option maxRecDepth 20000 in
theorem gL_law_X3_cap : GoodIn wsL_law (wsV RL 111 RX3 yX3_cap wsX3_cap) := goodIn_app (goodIn_of _ (by decide +kernel)) ggL_law_X3_cap
set_option maxRecDepth 20000 in
theorem ggL_law_L_terms : GoodIn wsL_law wsL_terms := goodIn_ca (goodIn_r _ [241, 89, 242, 243, 244, 2, 245, 32, 33, 34, 104, 105, 106, 107, 108, 667, 668, 669, 670, 671, 672, 673, 674, 675, 676, 677, 678, 679, 680, 681] (by decide +kernel) (by decide +kernel)) (goodIn_sub (fun _ h => List.mem_append_left _ (List.mem_append_right _ h)) (by decide +kernel))
set_option maxRecDepth 20000 in
theorem gL_law_L_terms : GoodIn wsL_law (va_wsS RL 112 yL_terms wsL_terms) := goodIn_app (goodIn_of _ (by decide +kernel)) ggL_law_L_terms
set_option maxRecDepth 20000 in
theorem ggL_law_X3_terms : GoodIn wsL_law wsX3_terms := goodIn_r _ [249, 76, 77, 126, 127, 5, 128, 129, 130, 131, 132, 133, 682, 683, 684, 685, 686, 687, 688, 689, 690, 691, 692, 693, 694, 695, 696, 697, 698, 699, 700, 701, 702] (by decide +kernel) (by decide +kernel)
set_option maxRecDepth 20000 in
theorem gL_law_X3_terms : GoodIn wsL_law (wsV RL 114 RX3 yX3_terms wsX3_terms) := goodIn_app (goodIn_of _ (by decide +kernel)) ggL_law_X3_terms
set_option maxRecDepth 20000 in
theorem ggL_law_L_unit : GoodIn wsL_law wsL_unit := goodIn_ca (goodIn_r _ [252, 153, 253, 254, 255, 2, 256, 210, 211, 212, 213, 160, 161, 162, 163, 164, 165, 166, 167, 168, 169, 17, 16, 170, 171, 172, 15, 173, 41, 257, 258, 259, 260, 19, 159, 214, 215, 216, 261, 262, 263, 264, 265, 266, 267, 268, 30, 31, 269, 270, 271, 667, 668, 669, 670, 671, 672, 673, 674, 675, 676, 677, 678, 679, 680, 681, 703, 704, 705] (by decide +kernel) (by decide +kernel)) (goodIn_sub (fun _ h => List.mem_append_right _ h) (by decide +kernel))
set_option maxRecDepth 20000 in
theorem gL_law_L_unit : GoodIn wsL_law (va_wsS RL 115 yL_unit wsL_unit) := goodIn_app (goodIn_of _ (by decide +kernel)) ggL_law_L_unit
