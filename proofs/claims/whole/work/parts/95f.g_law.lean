/-! What the law calls finds its words among the law's. -/
set_option maxRecDepth 20000 in
theorem ggL_law_L_middle : GoodIn wsL_law wsL_middle := goodIn_ca (goodIn_r _ [630, 88, 631, 632, 633, 2, 634, 97, 98, 16, 298, 635, 636, 637, 638, 156, 157, 259, 260, 261, 262, 263, 264, 265, 266, 30, 31, 267, 268, 269, 665, 666, 667, 668, 669, 670, 671, 672, 673, 674, 675, 676, 677, 678, 679, 701, 702, 703] (by decide +kernel) (by decide +kernel)) (goodIn_sub (fun _ h => List.mem_append_left _ (List.mem_append_left _ (List.mem_append_right _ h))) (by decide +kernel))
set_option maxRecDepth 20000 in
theorem gL_law_L_middle : GoodIn wsL_law (va_wsS RL 163 yL_middle wsL_middle) := goodIn_app (goodIn_of _ (by decide +kernel)) ggL_law_L_middle
set_option maxRecDepth 20000 in
theorem ggL_law_X3_middle : GoodIn wsL_law wsX3_middle := goodIn_r _ [642, 120, 373, 68, 67, 127, 128, 129, 5, 130, 131, 278, 279, 280, 281, 199, 200, 282, 283, 284, 680, 681, 682, 683, 684, 685, 686, 687, 688, 689, 690, 691, 692, 693, 694, 695, 696, 697, 698, 699, 700] (by decide +kernel) (by decide +kernel)
set_option maxRecDepth 20000 in
theorem gL_law_X3_middle : GoodIn wsL_law (wsV RL 165 RX3 yX3_middle wsX3_middle) := goodIn_app (goodIn_of _ (by decide +kernel)) ggL_law_X3_middle
set_option maxRecDepth 20000 in
theorem ggL_law_L_about : GoodIn wsL_law wsL_about := goodIn_ca (goodIn_ca (goodIn_r _ [645, 151, 87, 646, 647, 648, 2, 649, 157, 156, 158, 159, 160, 161, 162, 163, 164, 165, 166, 167, 17, 16, 168, 169, 170, 15, 171, 41, 102, 103, 104, 105, 106, 597, 598, 599, 600, 298, 21, 212, 213, 214, 593, 594, 595, 596, 701, 702, 703, 665, 666, 667, 668, 669, 670, 671, 672, 673, 674, 675, 676, 677, 678, 679] (by decide +kernel) (by decide +kernel)) (goodIn_sub (fun _ h => List.mem_append_right _ h) (by decide +kernel))) (goodIn_sub (fun _ h => List.mem_append_left _ (List.mem_append_right _ h)) (by decide +kernel))
set_option maxRecDepth 20000 in
theorem gL_law_L_about : GoodIn wsL_law (va_wsS RL 166 yL_about wsL_about) := goodIn_app (goodIn_of _ (by decide +kernel)) ggL_law_L_about
set_option maxRecDepth 20000 in
theorem ggL_law_X3_about : GoodIn wsL_law wsX3_about := goodIn_r _ [653, 69, 67, 70, 68, 176, 177, 178, 5, 179, 180, 181, 182, 183, 147, 124, 125, 126, 184, 185, 186, 187, 120, 127, 128, 129, 130, 131, 613, 614, 615, 616, 73, 680, 681, 682, 683, 684, 685, 686, 687, 688, 689, 690, 691, 692, 693, 694, 695, 696, 697, 698, 699, 700] (by decide +kernel) (by decide +kernel)
set_option maxRecDepth 20000 in
theorem gL_law_X3_about : GoodIn wsL_law (wsV RL 169 RX3 yX3_about wsX3_about) := goodIn_app (goodIn_of _ (by decide +kernel)) ggL_law_X3_about
set_option maxRecDepth 20000 in
theorem ggL_law_L_count : GoodIn wsL_law wsL_count := goodIn_ca (goodIn_r _ [656, 87, 657, 658, 659, 2, 660, 16, 298, 17, 30, 31, 32, 33, 433, 102, 103, 104, 105, 106, 290, 291, 292, 293, 34, 28, 294, 295, 296, 297, 156, 20, 299, 300, 301, 27, 302, 46, 47, 48, 49, 50, 57, 58, 303, 60, 61, 62, 304, 305, 306, 307, 308, 309, 310, 311, 212, 213, 214, 255, 256, 257, 258, 19, 157, 259, 260, 261, 262, 263, 264, 265, 266, 267, 268, 269, 312, 313, 314, 315, 51, 52, 316, 317, 318, 319, 320, 321, 322, 323, 53, 324, 55, 54, 56, 325, 326, 327, 328, 329, 330, 331, 332, 333, 334, 335, 336, 337, 338, 339, 340, 341, 342, 343, 344, 345, 346, 347, 348, 349, 350, 351, 352, 535, 536, 537, 665, 666, 667, 668, 669, 670, 671, 672, 673, 674, 675, 676, 677, 678, 679, 701, 702, 703, 704, 705, 706, 707, 708, 709, 710, 711, 712, 713, 714, 715, 716] (by decide +kernel) (by decide +kernel)) (goodIn_sub (fun _ h => List.mem_append_left _ (List.mem_append_right _ h)) (by decide +kernel))
set_option maxRecDepth 20000 in
theorem gL_law_L_count : GoodIn wsL_law (va_wsS RL 170 yL_count wsL_count) := goodIn_app (goodIn_of _ (by decide +kernel)) ggL_law_L_count
set_option maxRecDepth 20000 in
theorem ggL_law_X3_count : GoodIn wsL_law wsX3_count := goodIn_r _ [664, 120, 147, 199, 200, 74, 75, 82, 124, 125, 5, 126, 127, 128, 129, 130, 131, 438, 439, 440, 441, 78, 76, 77, 357, 358, 359, 360, 361, 362, 363, 364, 68, 70, 72, 365, 366, 367, 368, 79, 369, 370, 371, 372, 80, 373, 81, 374, 375, 376, 377, 378, 379, 380, 381, 382, 383, 384, 385, 274, 275, 276, 277, 71, 67, 69, 278, 279, 280, 281, 282, 283, 284, 386, 387, 388, 389, 222, 223, 224, 225, 184, 185, 186, 187, 180, 181, 182, 183, 442, 443, 444, 445, 680, 681, 682, 683, 684, 685, 686, 687, 688, 689, 690, 691, 692, 693, 694, 695, 696, 697, 698, 699, 700] (by decide +kernel) (by decide +kernel)
set_option maxRecDepth 20000 in
theorem gL_law_X3_count : GoodIn wsL_law (wsV RL 173 RX3 yX3_count wsX3_count) := goodIn_app (goodIn_of _ (by decide +kernel)) ggL_law_X3_count
