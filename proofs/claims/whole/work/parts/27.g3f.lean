set_option maxRecDepth 20000 in
theorem ggL_law_X7_tacet : GoodIn wsL_law wsX7_tacet := goodIn_r _ [547, 15, 172, 137, 138, 14, 139, 31, 548, 287, 288, 58, 289, 63, 653, 654, 655, 656, 657, 658, 710, 711, 712, 713, 714, 695, 696, 697, 698, 699, 708, 709] (by decide +kernel) (by decide +kernel)
set_option maxRecDepth 20000 in
theorem gL_law_X7_tacet : GoodIn wsL_law (wsV RL 71 RX7 yX7_tacet wsX7_tacet) := goodIn_app (goodIn_of _ (by decide +kernel)) ggL_law_X7_tacet
set_option maxRecDepth 20000 in
theorem ggL_law_X8_tacet : GoodIn wsL_law wsX8_tacet := goodIn_r _ [552, 216, 217, 218, 5, 219, 123, 165, 166, 167, 376, 377, 378, 379, 164, 380, 381, 382, 383, 69, 659, 660, 661, 662, 663, 664, 665, 666, 667, 668, 669, 670, 671, 672, 673, 674, 675, 676, 677, 678, 679, 680, 681, 682, 683, 684, 685, 686, 687, 688, 689, 690, 691, 692, 693, 694] (by decide +kernel) (by decide +kernel)
set_option maxRecDepth 20000 in
theorem gL_law_X8_tacet : GoodIn wsL_law (wsV RL 74 RX8 yX8_tacet wsX8_tacet) := goodIn_app (goodIn_of _ (by decide +kernel)) ggL_law_X8_tacet
set_option maxRecDepth 20000 in
theorem ggL_law_X7_lay : GoodIn wsL_law wsX7_lay := goodIn_r _ [556, 25, 26, 128, 129, 2, 130, 557, 558, 559, 560, 15, 19, 420, 421, 422, 14, 423, 136, 137, 138, 139, 31, 480, 481, 482, 18, 483, 484, 485, 486, 487, 488, 489, 50, 490, 478, 146, 479, 491, 306, 307, 23, 308, 55, 298, 299, 300, 301, 284, 492, 493, 494, 495, 496, 497, 498, 499, 500, 501, 502, 503, 51, 504, 505, 506, 507, 508, 509, 510, 511, 512, 513, 514, 515, 653, 654, 655, 656, 657, 658, 700, 701, 702, 703, 710, 711, 712, 713, 714, 695, 696, 697, 698, 699, 704, 705, 706] (by decide +kernel) (by decide +kernel)
set_option maxRecDepth 20000 in
theorem gL_law_X7_lay : GoodIn wsL_law (wsV RL 75 RX7 yX7_lay wsX7_lay) := goodIn_app (goodIn_of _ (by decide +kernel)) ggL_law_X7_lay
set_option maxRecDepth 20000 in
theorem ggL_law_X8_lay : GoodIn wsL_law wsX8_lay := goodIn_r _ [564, 90, 91, 123, 80, 529, 165, 166, 5, 167, 531, 532, 533, 534, 535, 92, 93, 94, 95, 96, 536, 537, 538, 539, 81, 85, 540, 541, 542, 543, 82, 84, 659, 660, 661, 662, 663, 664, 665, 666, 667, 668, 669, 670, 671, 672, 673, 674, 675, 676, 677, 678, 679, 680, 681, 682, 683, 684, 685, 686, 687, 688, 689, 690, 691, 692, 693, 694] (by decide +kernel) (by decide +kernel)
set_option maxRecDepth 20000 in
theorem gL_law_X8_lay : GoodIn wsL_law (wsV RL 78 RX8 yX8_lay wsX8_lay) := goodIn_app (goodIn_of _ (by decide +kernel)) ggL_law_X8_lay
