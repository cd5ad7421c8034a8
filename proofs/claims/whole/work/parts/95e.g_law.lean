/-! What the law calls finds its words among the law's. -/
set_option maxRecDepth 20000 in
theorem ggL_law_X3_order : GoodIn wsL_law wsX3_order := goodIn_r _ [555, 201, 556, 557, 558, 5, 559, 122, 70, 149, 72, 73, 74, 224, 225, 226, 227, 186, 187, 188, 189, 126, 127, 128, 182, 183, 184, 185, 129, 130, 131, 132, 133, 560, 561, 562, 563, 202, 564, 565, 566, 567, 69, 71, 284, 285, 286, 682, 683, 684, 685, 686, 687, 688, 689, 690, 691, 692, 693, 694, 695, 696, 697, 698, 699, 700, 701, 702] (by decide +kernel) (by decide +kernel)
set_option maxRecDepth 20000 in
theorem gL_law_X3_order : GoodIn wsL_law (wsV RL 148 RX3 yX3_order wsX3_order) := goodIn_app (goodIn_of _ (by decide +kernel)) ggL_law_X3_order
set_option maxRecDepth 20000 in
theorem ggL_law_L_carry : GoodIn wsL_law wsL_carry := goodIn_ca (goodIn_ca (goodIn_r _ [570, 153, 89, 571, 572, 573, 2, 574, 21, 210, 211, 212, 213, 160, 161, 162, 163, 164, 165, 166, 167, 168, 169, 17, 16, 170, 171, 172, 15, 173, 41, 104, 105, 106, 107, 108, 214, 215, 216, 217, 218, 219, 667, 668, 669, 670, 671, 672, 673, 674, 675, 676, 677, 678, 679, 680, 681, 703, 704, 705] (by decide +kernel) (by decide +kernel)) (goodIn_sub (fun _ h => List.mem_append_right _ h) (by decide +kernel))) (goodIn_sub (fun _ h => List.mem_append_left _ (List.mem_append_right _ h)) (by decide +kernel))
set_option maxRecDepth 20000 in
theorem gL_law_L_carry : GoodIn wsL_law (va_wsS RL 149 yL_carry wsL_carry) := goodIn_app (goodIn_of _ (by decide +kernel)) ggL_law_L_carry
set_option maxRecDepth 20000 in
theorem ggL_law_X3_carry : GoodIn wsL_law wsX3_carry := goodIn_r _ [578, 75, 224, 225, 226, 5, 227, 186, 187, 188, 189, 122, 126, 127, 128, 182, 183, 184, 185, 149, 129, 130, 131, 132, 133, 682, 683, 684, 685, 686, 687, 688, 689, 690, 691, 692, 693, 694, 695, 696, 697, 698, 699, 700, 701, 702] (by decide +kernel) (by decide +kernel)
set_option maxRecDepth 20000 in
theorem gL_law_X3_carry : GoodIn wsL_law (wsV RL 151 RX3 yX3_carry wsX3_carry) := goodIn_app (goodIn_of _ (by decide +kernel)) ggL_law_X3_carry
set_option maxRecDepth 20000 in
theorem ggL_law_X2_take : GoodIn wsL_law wsX2_take := goodIn_r _ [582, 21, 435, 292, 293, 294, 2, 295, 34, 28, 296, 297, 298, 299, 32, 33, 16, 300, 158, 17, 20, 301, 302, 303, 27, 304, 46, 47, 48, 49, 50, 58, 59, 60, 305, 62, 63, 64, 306, 307, 308, 309, 310, 311, 312, 313, 214, 215, 216, 257, 258, 259, 260, 19, 159, 261, 262, 263, 264, 265, 266, 267, 268, 30, 31, 269, 270, 271, 314, 315, 316, 317, 51, 52, 53, 318, 319, 320, 321, 322, 323, 324, 325, 54, 326, 56, 55, 57, 327, 328, 329, 330, 331, 332, 333, 334, 335, 336, 337, 338, 339, 340, 341, 342, 343, 344, 345, 346, 347, 348, 349, 350, 351, 352, 353, 354, 667, 668, 669, 670, 671, 672, 673, 674, 675, 676, 677, 678, 679, 680, 681, 706, 707, 708, 709, 710, 711, 712, 713, 714, 715, 716, 717, 718, 719, 720, 703, 704, 705] (by decide +kernel) (by decide +kernel)
set_option maxRecDepth 20000 in
theorem gL_law_X2_take : GoodIn wsL_law (wsV RL 152 RX2 yX2_take wsX2_take) := goodIn_app (goodIn_of _ (by decide +kernel)) ggL_law_X2_take
set_option maxRecDepth 20000 in
theorem ggL_law_X3_take : GoodIn wsL_law wsX3_take := goodIn_r _ [586, 133, 75, 84, 440, 441, 442, 5, 443, 80, 78, 79, 359, 360, 361, 362, 363, 364, 365, 366, 122, 70, 149, 72, 74, 367, 368, 369, 370, 81, 76, 77, 371, 372, 373, 374, 82, 375, 83, 376, 377, 378, 379, 380, 381, 382, 383, 384, 385, 386, 387, 276, 277, 278, 279, 73, 69, 71, 280, 281, 282, 283, 201, 202, 284, 285, 286, 388, 389, 390, 391, 224, 225, 226, 227, 186, 187, 188, 189, 126, 127, 128, 182, 183, 184, 185, 444, 445, 446, 447, 682, 683, 684, 685, 686, 687, 688, 689, 690, 691, 692, 693, 694, 695, 696, 697, 698, 699, 700, 701, 702] (by decide +kernel) (by decide +kernel)
set_option maxRecDepth 20000 in
theorem gL_law_X3_take : GoodIn wsL_law (wsV RL 155 RX3 yX3_take wsX3_take) := goodIn_app (goodIn_of _ (by decide +kernel)) ggL_law_X3_take
set_option maxRecDepth 20000 in
theorem ggL_law_X2_whyNot : GoodIn wsL_law wsX2_whyNot := goodIn_r _ [590, 291, 591, 592, 593, 2, 594, 16, 300, 158, 17, 20, 21, 595, 596, 597, 598, 214, 215, 216, 599, 600, 601, 602, 603, 604, 605, 606, 32, 33, 257, 258, 259, 260, 19, 159, 261, 262, 263, 264, 265, 266, 267, 268, 30, 31, 269, 270, 271, 292, 293, 294, 295, 34, 28, 296, 297, 298, 299, 301, 302, 303, 27, 304, 46, 47, 48, 49, 50, 58, 59, 60, 305, 62, 63, 64, 306, 307, 308, 309, 310, 311, 312, 313, 314, 315, 316, 317, 51, 52, 53, 318, 319, 320, 321, 322, 323, 324, 325, 54, 326, 56, 55, 57, 327, 328, 329, 330, 331, 332, 333, 334, 335, 336, 337, 338, 339, 340, 341, 342, 343, 344, 345, 346, 347, 348, 349, 350, 351, 352, 353, 354, 706, 707, 708, 709, 710, 711, 712, 713, 714, 715, 716, 717, 718, 719, 720, 667, 668, 669, 670, 671, 672, 673, 674, 675, 676, 677, 678, 679, 680, 681, 703, 704, 705] (by decide +kernel) (by decide +kernel)
set_option maxRecDepth 20000 in
theorem gL_law_X2_whyNot : GoodIn wsL_law (wsV RL 156 RX2 yX2_whyNot wsX2_whyNot) := goodIn_app (goodIn_of _ (by decide +kernel)) ggL_law_X2_whyNot
set_option maxRecDepth 20000 in
theorem ggL_law_X3_whyNot : GoodIn wsL_law wsX3_whyNot := goodIn_r _ [610, 133, 75, 611, 612, 613, 5, 614, 122, 70, 149, 72, 74, 615, 616, 617, 618, 420, 421, 422, 423, 76, 77, 276, 277, 278, 279, 73, 69, 71, 280, 281, 282, 283, 201, 202, 284, 285, 286, 359, 360, 361, 362, 363, 364, 365, 366, 78, 79, 80, 367, 368, 369, 370, 81, 371, 372, 373, 374, 82, 375, 83, 376, 377, 378, 379, 380, 381, 382, 383, 384, 385, 386, 387, 388, 389, 390, 391, 682, 683, 684, 685, 686, 687, 688, 689, 690, 691, 692, 693, 694, 695, 696, 697, 698, 699, 700, 701, 702] (by decide +kernel) (by decide +kernel)
set_option maxRecDepth 20000 in
theorem gL_law_X3_whyNot : GoodIn wsL_law (wsV RL 159 RX3 yX3_whyNot wsX3_whyNot) := goodIn_app (goodIn_of _ (by decide +kernel)) ggL_law_X3_whyNot
set_option maxRecDepth 20000 in
theorem ggL_law_L_handCost : GoodIn wsL_law wsL_handCost := goodIn_ca (goodIn_r _ [621, 90, 622, 623, 624, 2, 625, 99, 100, 591, 592, 593, 594, 16, 300, 158, 17, 20, 21, 595, 596, 597, 598, 214, 215, 216, 599, 600, 601, 602, 603, 604, 605, 606, 32, 33, 257, 258, 259, 260, 19, 159, 261, 262, 263, 264, 265, 266, 267, 268, 30, 31, 269, 270, 271, 667, 668, 669, 670, 671, 672, 673, 674, 675, 676, 677, 678, 679, 680, 681, 703, 704, 705] (by decide +kernel) (by decide +kernel)) (goodIn_sub (fun _ h => List.mem_append_left _ (List.mem_append_left _ (List.mem_append_right _ h))) (by decide +kernel))
set_option maxRecDepth 20000 in
theorem gL_law_L_handCost : GoodIn wsL_law (va_wsS RL 160 yL_handCost wsL_handCost) := goodIn_app (goodIn_of _ (by decide +kernel)) ggL_law_L_handCost
set_option maxRecDepth 20000 in
theorem ggL_law_X3_handCost : GoodIn wsL_law wsX3_handCost := goodIn_r _ [629, 75, 611, 612, 613, 5, 614, 122, 70, 149, 72, 74, 615, 616, 617, 618, 129, 130, 131, 132, 133, 420, 421, 422, 423, 76, 77, 276, 277, 278, 279, 73, 69, 71, 280, 281, 282, 283, 201, 202, 284, 285, 286, 682, 683, 684, 685, 686, 687, 688, 689, 690, 691, 692, 693, 694, 695, 696, 697, 698, 699, 700, 701, 702] (by decide +kernel) (by decide +kernel)
set_option maxRecDepth 20000 in
theorem gL_law_X3_handCost : GoodIn wsL_law (wsV RL 162 RX3 yX3_handCost wsX3_handCost) := goodIn_app (goodIn_of _ (by decide +kernel)) ggL_law_X3_handCost
