/-! What the law calls finds its words among the law's. -/
set_option maxRecDepth 20000 in
theorem ggL_law_L_middle : GoodIn wsL_law wsL_middle := goodIn_ca (goodIn_r _ [632, 90, 633, 634, 635, 2, 636, 99, 100, 16, 300, 637, 638, 639, 640, 158, 159, 261, 262, 263, 264, 265, 266, 267, 268, 30, 31, 269, 270, 271, 667, 668, 669, 670, 671, 672, 673, 674, 675, 676, 677, 678, 679, 680, 681, 703, 704, 705] (by decide +kernel) (by decide +kernel)) (goodIn_sub (fun _ h => List.mem_append_left _ (List.mem_append_left _ (List.mem_append_right _ h))) (by decide +kernel))
set_option maxRecDepth 20000 in
theorem gL_law_L_middle : GoodIn wsL_law (va_wsS RL 163 yL_middle wsL_middle) := goodIn_app (goodIn_of _ (by decide +kernel)) ggL_law_L_middle
set_option maxRecDepth 20000 in
theorem ggL_law_X3_middle : GoodIn wsL_law wsX3_middle := goodIn_r _ [644, 122, 375, 70, 69, 129, 130, 131, 5, 132, 133, 280, 281, 282, 283, 201, 202, 284, 285, 286, 682, 683, 684, 685, 686, 687, 688, 689, 690, 691, 692, 693, 694, 695, 696, 697, 698, 699, 700, 701, 702] (by decide +kernel) (by decide +kernel)
set_option maxRecDepth 20000 in
theorem gL_law_X3_middle : GoodIn wsL_law (wsV RL 165 RX3 yX3_middle wsX3_middle) := goodIn_app (goodIn_of _ (by decide +kernel)) ggL_law_X3_middle
set_option maxRecDepth 20000 in
theorem ggL_law_L_about : GoodIn wsL_law wsL_about := goodIn_ca (goodIn_ca (goodIn_r _ [647, 153, 89, 648, 649, 650, 2, 651, 159, 158, 160, 161, 162, 163, 164, 165, 166, 167, 168, 169, 17, 16, 170, 171, 172, 15, 173, 41, 104, 105, 106, 107, 108, 599, 600, 601, 602, 300, 21, 214, 215, 216, 595, 596, 597, 598, 703, 704, 705, 667, 668, 669, 670, 671, 672, 673, 674, 675, 676, 677, 678, 679, 680, 681] (by decide +kernel) (by decide +kernel)) (goodIn_sub (fun _ h => List.mem_append_right _ h) (by decide +kernel))) (goodIn_sub (fun _ h => List.mem_append_left _ (List.mem_append_right _ h)) (by decide +kernel))
set_option maxRecDepth 20000 in
theorem gL_law_L_about : GoodIn wsL_law (va_wsS RL 166 yL_about wsL_about) := goodIn_app (goodIn_of _ (by decide +kernel)) ggL_law_L_about
set_option maxRecDepth 20000 in
theorem ggL_law_X3_about : GoodIn wsL_law wsX3_about := goodIn_r _ [655, 71, 69, 72, 70, 178, 179, 180, 5, 181, 182, 183, 184, 185, 149, 126, 127, 128, 186, 187, 188, 189, 122, 129, 130, 131, 132, 133, 615, 616, 617, 618, 75, 682, 683, 684, 685, 686, 687, 688, 689, 690, 691, 692, 693, 694, 695, 696, 697, 698, 699, 700, 701, 702] (by decide +kernel) (by decide +kernel)
set_option maxRecDepth 20000 in
theorem gL_law_X3_about : GoodIn wsL_law (wsV RL 169 RX3 yX3_about wsX3_about) := goodIn_app (goodIn_of _ (by decide +kernel)) ggL_law_X3_about
set_option maxRecDepth 20000 in
theorem ggL_law_L_count : GoodIn wsL_law wsL_count := goodIn_ca (goodIn_r _ [658, 89, 659, 660, 661, 2, 662, 16, 300, 17, 30, 31, 32, 33, 435, 104, 105, 106, 107, 108, 292, 293, 294, 295, 34, 28, 296, 297, 298, 299, 158, 20, 301, 302, 303, 27, 304, 46, 47, 48, 49, 50, 58, 59, 60, 305, 62, 63, 64, 306, 307, 308, 309, 310, 311, 312, 313, 214, 215, 216, 257, 258, 259, 260, 19, 159, 261, 262, 263, 264, 265, 266, 267, 268, 269, 270, 271, 314, 315, 316, 317, 51, 52, 53, 318, 319, 320, 321, 322, 323, 324, 325, 54, 326, 56, 55, 57, 327, 328, 329, 330, 331, 332, 333, 334, 335, 336, 337, 338, 339, 340, 341, 342, 343, 344, 345, 346, 347, 348, 349, 350, 351, 352, 353, 354, 537, 538, 539, 667, 668, 669, 670, 671, 672, 673, 674, 675, 676, 677, 678, 679, 680, 681, 703, 704, 705, 706, 707, 708, 709, 710, 711, 712, 713, 714, 715, 716, 717, 718, 719, 720] (by decide +kernel) (by decide +kernel)) (goodIn_sub (fun _ h => List.mem_append_left _ (List.mem_append_right _ h)) (by decide +kernel))
set_option maxRecDepth 20000 in
theorem gL_law_L_count : GoodIn wsL_law (va_wsS RL 170 yL_count wsL_count) := goodIn_app (goodIn_of _ (by decide +kernel)) ggL_law_L_count
set_option maxRecDepth 20000 in
theorem ggL_law_X3_count : GoodIn wsL_law wsX3_count := goodIn_r _ [666, 122, 149, 201, 202, 76, 77, 84, 126, 127, 5, 128, 129, 130, 131, 132, 133, 440, 441, 442, 443, 80, 78, 79, 359, 360, 361, 362, 363, 364, 365, 366, 70, 72, 74, 367, 368, 369, 370, 81, 371, 372, 373, 374, 82, 375, 83, 376, 377, 378, 379, 380, 381, 382, 383, 384, 385, 386, 387, 276, 277, 278, 279, 73, 69, 71, 280, 281, 282, 283, 284, 285, 286, 388, 389, 390, 391, 224, 225, 226, 227, 186, 187, 188, 189, 182, 183, 184, 185, 444, 445, 446, 447, 682, 683, 684, 685, 686, 687, 688, 689, 690, 691, 692, 693, 694, 695, 696, 697, 698, 699, 700, 701, 702] (by decide +kernel) (by decide +kernel)
set_option maxRecDepth 20000 in
theorem gL_law_X3_count : GoodIn wsL_law (wsV RL 173 RX3 yX3_count wsX3_count) := goodIn_app (goodIn_of _ (by decide +kernel)) ggL_law_X3_count
