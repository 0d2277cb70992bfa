set_option maxRecDepth 20000 in
theorem ggL_law_X7_written : GoodIn wsL_law wsX7_written := goodIn_r _ [437, 15, 420, 421, 422, 14, 423, 136, 137, 138, 139, 31, 424, 299, 300, 23, 301, 284, 196, 189, 190, 58, 191, 63, 128, 129, 2, 130, 438, 193, 194, 195, 64, 653, 654, 655, 656, 657, 658, 704, 705, 706, 710, 711, 712, 713, 714, 695, 696, 697, 698, 699, 708, 709] (by decide +kernel) (by decide +kernel)
set_option maxRecDepth 20000 in
theorem gL_law_X7_written : GoodIn wsL_law (wsV RL 58 RX7 yX7_written wsX7_written) := goodIn_app (goodIn_of _ (by decide +kernel)) ggL_law_X7_written
set_option maxRecDepth 20000 in
theorem ggL_law_X8_written : GoodIn wsL_law wsX8_written := goodIn_r _ [442, 81, 88, 89, 430, 431, 432, 5, 433, 80, 216, 217, 218, 219, 123, 165, 166, 167, 659, 660, 661, 662, 663, 664, 665, 666, 667, 668, 669, 670, 671, 672, 673, 674, 675, 676, 677, 678, 679, 680, 681, 682, 683, 684, 685, 686, 687, 688, 689, 690, 691, 692, 693, 694] (by decide +kernel) (by decide +kernel)
set_option maxRecDepth 20000 in
theorem gL_law_X8_written : GoodIn wsL_law (wsV RL 62 RX8 yX8_written wsX8_written) := goodIn_app (goodIn_of _ (by decide +kernel)) ggL_law_X8_written
