set_option maxRecDepth 20000 in
theorem ggL_law_X8_mark : GoodIn wsL_law wsX8_mark := goodIn_r _ [247, 75, 76, 220, 221, 222, 5, 223, 164, 165, 166, 167, 659, 660, 661, 662, 663, 664, 665, 666, 667, 668, 669, 670, 671, 672, 673, 674, 675, 676, 677, 678, 679, 680, 681, 682, 683, 684, 685, 686, 687, 688, 689, 690, 691, 692, 693, 694] (by decide +kernel) (by decide +kernel)
set_option maxRecDepth 20000 in
theorem gL_law_X8_mark : GoodIn wsL_law (wsV RL 37 RX8 yX8_mark wsX8_mark) := goodIn_app (goodIn_of _ (by decide +kernel)) ggL_law_X8_mark
set_option maxRecDepth 20000 in
theorem ggL_law_X7_unmark : GoodIn wsL_law wsX7_unmark := goodIn_r _ [251, 15, 173, 174, 175, 14, 176, 135, 128, 129, 2, 130, 243, 154, 155, 34, 156, 42, 157, 158, 159, 653, 654, 655, 656, 657, 658, 695, 696, 697, 698, 699, 707] (by decide +kernel) (by decide +kernel)
set_option maxRecDepth 20000 in
theorem gL_law_X7_unmark : GoodIn wsL_law (wsV RL 38 RX7 yX7_unmark wsX7_unmark) := goodIn_app (goodIn_of _ (by decide +kernel)) ggL_law_X7_unmark
set_option maxRecDepth 20000 in
theorem ggL_law_X8_unmark : GoodIn wsL_law wsX8_unmark := goodIn_r _ [255, 75, 76, 220, 221, 222, 5, 223, 164, 165, 166, 167, 659, 660, 661, 662, 663, 664, 665, 666, 667, 668, 669, 670, 671, 672, 673, 674, 675, 676, 677, 678, 679, 680, 681, 682, 683, 684, 685, 686, 687, 688, 689, 690, 691, 692, 693, 694] (by decide +kernel) (by decide +kernel)
set_option maxRecDepth 20000 in
theorem gL_law_X8_unmark : GoodIn wsL_law (wsV RL 41 RX8 yX8_unmark wsX8_unmark) := goodIn_app (goodIn_of _ (by decide +kernel)) ggL_law_X8_unmark
set_option maxRecDepth 20000 in
theorem ggL_law_X7_instrument : GoodIn wsL_law wsX7_instrument := goodIn_r _ [259, 15, 172, 137, 138, 14, 139, 31, 128, 129, 2, 130, 653, 654, 655, 656, 657, 658, 710, 711, 712, 713, 714, 695, 696, 697, 698, 699] (by decide +kernel) (by decide +kernel)
set_option maxRecDepth 20000 in
theorem gL_law_X7_instrument : GoodIn wsL_law (wsV RL 42 RX7 yX7_instrument wsX7_instrument) := goodIn_app (goodIn_of _ (by decide +kernel)) ggL_law_X7_instrument
set_option maxRecDepth 20000 in
theorem ggL_law_X8_instrument : GoodIn wsL_law wsX8_instrument := goodIn_r _ [263, 77, 78, 216, 217, 218, 5, 219, 123, 165, 166, 167, 659, 660, 661, 662, 663, 664, 665, 666, 667, 668, 669, 670, 671, 672, 673, 674, 675, 676, 677, 678, 679, 680, 681, 682, 683, 684, 685, 686, 687, 688, 689, 690, 691, 692, 693, 694] (by decide +kernel) (by decide +kernel)
set_option maxRecDepth 20000 in
theorem gL_law_X8_instrument : GoodIn wsL_law (wsV RL 45 RX8 yX8_instrument wsX8_instrument) := goodIn_app (goodIn_of _ (by decide +kernel)) ggL_law_X8_instrument
set_option maxRecDepth 20000 in
theorem ggL_law_X7_cueing : GoodIn wsL_law wsX7_cueing := goodIn_r _ [267, 15, 128, 129, 2, 130, 653, 654, 655, 656, 657, 658, 695, 696, 697, 698, 699] (by decide +kernel) (by decide +kernel)
set_option maxRecDepth 20000 in
theorem gL_law_X7_cueing : GoodIn wsL_law (wsV RL 46 RX7 yX7_cueing wsX7_cueing) := goodIn_app (goodIn_of _ (by decide +kernel)) ggL_law_X7_cueing
set_option maxRecDepth 20000 in
theorem ggL_law_X8_cueing : GoodIn wsL_law wsX8_cueing := goodIn_r _ [271, 79, 165, 166, 5, 167, 659, 660, 661, 662, 663, 664, 665, 666, 667, 668, 669, 670, 671, 672, 673, 674, 675, 676, 677, 678, 679, 680, 681, 682, 683, 684, 685, 686, 687, 688, 689, 690, 691, 692, 693, 694] (by decide +kernel) (by decide +kernel)
set_option maxRecDepth 20000 in
theorem gL_law_X8_cueing : GoodIn wsL_law (wsV RL 49 RX8 yX8_cueing wsX8_cueing) := goodIn_app (goodIn_of _ (by decide +kernel)) ggL_law_X8_cueing
set_option maxRecDepth 20000 in
theorem ggL_law_X7_extract : GoodIn wsL_law wsX7_extract := goodIn_r _ [275, 15, 21, 22, 23, 172, 137, 138, 14, 139, 31, 52, 53, 54, 10, 11, 41, 55, 56, 57, 58, 59, 60, 61, 62, 63, 64, 276, 277, 278, 279, 280, 281, 282, 283, 284, 285, 141, 142, 143, 144, 145, 146, 147, 286, 287, 288, 289, 290, 291, 292, 293, 294, 295, 296, 297, 298, 299, 300, 301, 302, 303, 304, 305, 306, 307, 308, 309, 310, 311, 34, 312, 313, 314, 315, 316, 42, 157, 158, 159, 317, 318, 319, 320, 321, 322, 323, 188, 189, 190, 191, 192, 193, 194, 195, 324, 325, 326, 327, 328, 329, 330, 331, 111, 332, 333, 334, 335, 336, 337, 338, 339, 340, 341, 342, 343, 344, 345, 36, 346, 347, 348, 349, 136, 350, 351, 352, 353, 354, 355, 356, 357, 358, 359, 360, 361, 362, 181, 182, 183, 363, 364, 365, 366, 367, 198, 199, 200, 201, 202, 203, 204, 205, 206, 207, 208, 209, 210, 211, 653, 654, 655, 656, 657, 658, 710, 711, 712, 713, 714, 704, 705, 706, 695, 696, 697, 698, 699, 708, 709, 707] (by decide +kernel) (by decide +kernel)
set_option maxRecDepth 20000 in
theorem gL_law_X7_extract : GoodIn wsL_law (wsV RL 50 RX7 yX7_extract wsX7_extract) := goodIn_app (goodIn_of _ (by decide +kernel)) ggL_law_X7_extract
set_option maxRecDepth 20000 in
theorem ggL_law_X8_extract : GoodIn wsL_law wsX8_extract := goodIn_r _ [371, 81, 216, 217, 218, 5, 219, 123, 165, 166, 167, 372, 373, 374, 375, 164, 376, 377, 378, 379, 380, 381, 382, 383, 69, 384, 385, 386, 387, 82, 83, 84, 87, 86, 85, 88, 77, 89, 70, 71, 72, 78, 73, 388, 389, 390, 391, 392, 393, 394, 395, 75, 76, 396, 397, 398, 399, 400, 401, 402, 403, 404, 405, 406, 407, 224, 225, 226, 408, 409, 410, 411, 79, 412, 413, 414, 415, 80, 659, 660, 661, 662, 663, 664, 665, 666, 667, 668, 669, 670, 671, 672, 673, 674, 675, 676, 677, 678, 679, 680, 681, 682, 683, 684, 685, 686, 687, 688, 689, 690, 691, 692, 693, 694] (by decide +kernel) (by decide +kernel)
set_option maxRecDepth 20000 in
theorem gL_law_X8_extract : GoodIn wsL_law (wsV RL 53 RX8 yX8_extract wsX8_extract) := goodIn_app (goodIn_of _ (by decide +kernel)) ggL_law_X8_extract
set_option maxRecDepth 20000 in
theorem ggL_law_X7_row : GoodIn wsL_law wsX7_row := goodIn_r _ [419, 15, 420, 421, 422, 14, 423, 136, 137, 138, 139, 31, 424, 299, 300, 23, 301, 284, 128, 129, 2, 130, 425, 306, 307, 308, 55, 298, 653, 654, 655, 656, 657, 658, 710, 711, 712, 713, 714, 695, 696, 697, 698, 699, 704, 705, 706] (by decide +kernel) (by decide +kernel)
set_option maxRecDepth 20000 in
theorem gL_law_X7_row : GoodIn wsL_law (wsV RL 54 RX7 yX7_row wsX7_row) := goodIn_app (goodIn_of _ (by decide +kernel)) ggL_law_X7_row
set_option maxRecDepth 20000 in
theorem ggL_law_X8_row : GoodIn wsL_law wsX8_row := goodIn_r _ [429, 81, 82, 83, 84, 85, 86, 88, 87, 430, 431, 432, 5, 433, 80, 216, 217, 218, 219, 123, 165, 166, 167, 659, 660, 661, 662, 663, 664, 665, 666, 667, 668, 669, 670, 671, 672, 673, 674, 675, 676, 677, 678, 679, 680, 681, 682, 683, 684, 685, 686, 687, 688, 689, 690, 691, 692, 693, 694] (by decide +kernel) (by decide +kernel)
set_option maxRecDepth 20000 in
theorem gL_law_X8_row : GoodIn wsL_law (wsV RL 57 RX8 yX8_row wsX8_row) := goodIn_app (goodIn_of _ (by decide +kernel)) ggL_law_X8_row
