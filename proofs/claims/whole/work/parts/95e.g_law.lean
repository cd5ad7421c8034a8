/-! What the law calls finds its words among the law's. -/
set_option maxRecDepth 20000 in
theorem ggL_law_X3_order : GoodIn wsL_law wsX3_order := goodIn_r _ [553, 199, 554, 555, 556, 5, 557, 120, 68, 147, 70, 71, 72, 222, 223, 224, 225, 184, 185, 186, 187, 124, 125, 126, 180, 181, 182, 183, 127, 128, 129, 130, 131, 558, 559, 560, 561, 200, 562, 563, 564, 565, 67, 69, 282, 283, 284, 680, 681, 682, 683, 684, 685, 686, 687, 688, 689, 690, 691, 692, 693, 694, 695, 696, 697, 698, 699, 700] (by decide +kernel) (by decide +kernel)
set_option maxRecDepth 20000 in
theorem gL_law_X3_order : GoodIn wsL_law (wsV RL 148 RX3 yX3_order wsX3_order) := goodIn_app (goodIn_of _ (by decide +kernel)) ggL_law_X3_order
set_option maxRecDepth 20000 in
theorem ggL_law_L_carry : GoodIn wsL_law wsL_carry := goodIn_ca (goodIn_ca (goodIn_r _ [568, 151, 87, 569, 570, 571, 2, 572, 21, 208, 209, 210, 211, 158, 159, 160, 161, 162, 163, 164, 165, 166, 167, 17, 16, 168, 169, 170, 15, 171, 41, 102, 103, 104, 105, 106, 212, 213, 214, 215, 216, 217, 665, 666, 667, 668, 669, 670, 671, 672, 673, 674, 675, 676, 677, 678, 679, 701, 702, 703] (by decide +kernel) (by decide +kernel)) (goodIn_sub (fun _ h => List.mem_append_right _ h) (by decide +kernel))) (goodIn_sub (fun _ h => List.mem_append_left _ (List.mem_append_right _ h)) (by decide +kernel))
set_option maxRecDepth 20000 in
theorem gL_law_L_carry : GoodIn wsL_law (va_wsS RL 149 yL_carry wsL_carry) := goodIn_app (goodIn_of _ (by decide +kernel)) ggL_law_L_carry
set_option maxRecDepth 20000 in
theorem ggL_law_X3_carry : GoodIn wsL_law wsX3_carry := goodIn_r _ [576, 73, 222, 223, 224, 5, 225, 184, 185, 186, 187, 120, 124, 125, 126, 180, 181, 182, 183, 147, 127, 128, 129, 130, 131, 680, 681, 682, 683, 684, 685, 686, 687, 688, 689, 690, 691, 692, 693, 694, 695, 696, 697, 698, 699, 700] (by decide +kernel) (by decide +kernel)
set_option maxRecDepth 20000 in
theorem gL_law_X3_carry : GoodIn wsL_law (wsV RL 151 RX3 yX3_carry wsX3_carry) := goodIn_app (goodIn_of _ (by decide +kernel)) ggL_law_X3_carry
set_option maxRecDepth 20000 in
theorem ggL_law_X2_take : GoodIn wsL_law wsX2_take := goodIn_r _ [580, 21, 433, 290, 291, 292, 2, 293, 34, 28, 294, 295, 296, 297, 32, 33, 16, 298, 156, 17, 20, 299, 300, 301, 27, 302, 46, 47, 48, 49, 50, 57, 58, 303, 60, 61, 62, 304, 305, 306, 307, 308, 309, 310, 311, 212, 213, 214, 255, 256, 257, 258, 19, 157, 259, 260, 261, 262, 263, 264, 265, 266, 30, 31, 267, 268, 269, 312, 313, 314, 315, 51, 52, 316, 317, 318, 319, 320, 321, 322, 323, 53, 324, 55, 54, 56, 325, 326, 327, 328, 329, 330, 331, 332, 333, 334, 335, 336, 337, 338, 339, 340, 341, 342, 343, 344, 345, 346, 347, 348, 349, 350, 351, 352, 665, 666, 667, 668, 669, 670, 671, 672, 673, 674, 675, 676, 677, 678, 679, 704, 705, 706, 707, 708, 709, 710, 711, 712, 713, 714, 715, 716, 701, 702, 703] (by decide +kernel) (by decide +kernel)
set_option maxRecDepth 20000 in
theorem gL_law_X2_take : GoodIn wsL_law (wsV RL 152 RX2 yX2_take wsX2_take) := goodIn_app (goodIn_of _ (by decide +kernel)) ggL_law_X2_take
set_option maxRecDepth 20000 in
theorem ggL_law_X3_take : GoodIn wsL_law wsX3_take := goodIn_r _ [584, 131, 73, 82, 438, 439, 440, 5, 441, 78, 76, 77, 357, 358, 359, 360, 361, 362, 363, 364, 120, 68, 147, 70, 72, 365, 366, 367, 368, 79, 74, 75, 369, 370, 371, 372, 80, 373, 81, 374, 375, 376, 377, 378, 379, 380, 381, 382, 383, 384, 385, 274, 275, 276, 277, 71, 67, 69, 278, 279, 280, 281, 199, 200, 282, 283, 284, 386, 387, 388, 389, 222, 223, 224, 225, 184, 185, 186, 187, 124, 125, 126, 180, 181, 182, 183, 442, 443, 444, 445, 680, 681, 682, 683, 684, 685, 686, 687, 688, 689, 690, 691, 692, 693, 694, 695, 696, 697, 698, 699, 700] (by decide +kernel) (by decide +kernel)
set_option maxRecDepth 20000 in
theorem gL_law_X3_take : GoodIn wsL_law (wsV RL 155 RX3 yX3_take wsX3_take) := goodIn_app (goodIn_of _ (by decide +kernel)) ggL_law_X3_take
set_option maxRecDepth 20000 in
theorem ggL_law_X2_whyNot : GoodIn wsL_law wsX2_whyNot := goodIn_r _ [588, 289, 589, 590, 591, 2, 592, 16, 298, 156, 17, 20, 21, 593, 594, 595, 596, 212, 213, 214, 597, 598, 599, 600, 601, 602, 603, 604, 32, 33, 255, 256, 257, 258, 19, 157, 259, 260, 261, 262, 263, 264, 265, 266, 30, 31, 267, 268, 269, 290, 291, 292, 293, 34, 28, 294, 295, 296, 297, 299, 300, 301, 27, 302, 46, 47, 48, 49, 50, 57, 58, 303, 60, 61, 62, 304, 305, 306, 307, 308, 309, 310, 311, 312, 313, 314, 315, 51, 52, 316, 317, 318, 319, 320, 321, 322, 323, 53, 324, 55, 54, 56, 325, 326, 327, 328, 329, 330, 331, 332, 333, 334, 335, 336, 337, 338, 339, 340, 341, 342, 343, 344, 345, 346, 347, 348, 349, 350, 351, 352, 704, 705, 706, 707, 708, 709, 710, 711, 712, 713, 714, 715, 716, 665, 666, 667, 668, 669, 670, 671, 672, 673, 674, 675, 676, 677, 678, 679, 701, 702, 703] (by decide +kernel) (by decide +kernel)
set_option maxRecDepth 20000 in
theorem gL_law_X2_whyNot : GoodIn wsL_law (wsV RL 156 RX2 yX2_whyNot wsX2_whyNot) := goodIn_app (goodIn_of _ (by decide +kernel)) ggL_law_X2_whyNot
set_option maxRecDepth 20000 in
theorem ggL_law_X3_whyNot : GoodIn wsL_law wsX3_whyNot := goodIn_r _ [608, 131, 73, 609, 610, 611, 5, 612, 120, 68, 147, 70, 72, 613, 614, 615, 616, 418, 419, 420, 421, 74, 75, 274, 275, 276, 277, 71, 67, 69, 278, 279, 280, 281, 199, 200, 282, 283, 284, 357, 358, 359, 360, 361, 362, 363, 364, 76, 77, 78, 365, 366, 367, 368, 79, 369, 370, 371, 372, 80, 373, 81, 374, 375, 376, 377, 378, 379, 380, 381, 382, 383, 384, 385, 386, 387, 388, 389, 680, 681, 682, 683, 684, 685, 686, 687, 688, 689, 690, 691, 692, 693, 694, 695, 696, 697, 698, 699, 700] (by decide +kernel) (by decide +kernel)
set_option maxRecDepth 20000 in
theorem gL_law_X3_whyNot : GoodIn wsL_law (wsV RL 159 RX3 yX3_whyNot wsX3_whyNot) := goodIn_app (goodIn_of _ (by decide +kernel)) ggL_law_X3_whyNot
set_option maxRecDepth 20000 in
theorem ggL_law_L_handCost : GoodIn wsL_law wsL_handCost := goodIn_ca (goodIn_r _ [619, 88, 620, 621, 622, 2, 623, 97, 98, 589, 590, 591, 592, 16, 298, 156, 17, 20, 21, 593, 594, 595, 596, 212, 213, 214, 597, 598, 599, 600, 601, 602, 603, 604, 32, 33, 255, 256, 257, 258, 19, 157, 259, 260, 261, 262, 263, 264, 265, 266, 30, 31, 267, 268, 269, 665, 666, 667, 668, 669, 670, 671, 672, 673, 674, 675, 676, 677, 678, 679, 701, 702, 703] (by decide +kernel) (by decide +kernel)) (goodIn_sub (fun _ h => List.mem_append_left _ (List.mem_append_left _ (List.mem_append_right _ h))) (by decide +kernel))
set_option maxRecDepth 20000 in
theorem gL_law_L_handCost : GoodIn wsL_law (va_wsS RL 160 yL_handCost wsL_handCost) := goodIn_app (goodIn_of _ (by decide +kernel)) ggL_law_L_handCost
set_option maxRecDepth 20000 in
theorem ggL_law_X3_handCost : GoodIn wsL_law wsX3_handCost := goodIn_r _ [627, 73, 609, 610, 611, 5, 612, 120, 68, 147, 70, 72, 613, 614, 615, 616, 127, 128, 129, 130, 131, 418, 419, 420, 421, 74, 75, 274, 275, 276, 277, 71, 67, 69, 278, 279, 280, 281, 199, 200, 282, 283, 284, 680, 681, 682, 683, 684, 685, 686, 687, 688, 689, 690, 691, 692, 693, 694, 695, 696, 697, 698, 699, 700] (by decide +kernel) (by decide +kernel)
set_option maxRecDepth 20000 in
theorem gL_law_X3_handCost : GoodIn wsL_law (wsV RL 162 RX3 yX3_handCost wsX3_handCost) := goodIn_app (goodIn_of _ (by decide +kernel)) ggL_law_X3_handCost
