set_option maxRecDepth 20000 in
theorem ggL_law_X7_init : GoodIn wsL_law wsX7_init := goodIn_r _ [8, 9, 10, 11, 12, 13, 14, 15, 16, 17, 18, 19, 20, 21, 22, 23, 24, 25, 26, 27, 28, 29, 30, 31, 32, 33, 34, 35, 36, 37, 38, 39, 40, 41, 42, 43, 44, 45, 46, 47, 48, 49, 50, 51, 52, 53, 54, 55, 56, 57, 58, 59, 60, 61, 62, 63, 64, 695, 696, 697, 698, 699, 653, 654, 655, 656, 657, 658, 700, 701, 702, 703, 704, 705, 706, 707, 708, 709] (by decide +kernel) (by decide +kernel)
set_option maxRecDepth 20000 in
theorem gL_law_X7_init : GoodIn wsL_law (wsX7_init) := ggL_law_X7_init
set_option maxRecDepth 20000 in
theorem ggL_law_X8_init : GoodIn wsL_law wsX8_init := goodIn_r _ [67, 68, 10, 11, 41, 69, 70, 71, 72, 73, 74, 75, 76, 77, 78, 79, 80, 81, 82, 83, 84, 85, 86, 87, 88, 89, 90, 91, 92, 93, 94, 95, 96, 97, 98, 99, 100, 659, 660, 661, 662, 663, 664, 665, 666, 667, 668, 669, 670, 671, 672, 673, 674, 675, 676, 677, 678, 679, 680, 681, 682, 683, 684, 685, 686, 687, 688, 689, 690, 691, 692, 693, 694] (by decide +kernel) (by decide +kernel)
set_option maxRecDepth 20000 in
theorem gL_law_X8_init : GoodIn wsL_law (wsX8_init) := ggL_law_X8_init
set_option maxRecDepth 20000 in
theorem ggL_law_X7_voice : GoodIn wsL_law wsX7_voice := goodIn_r _ [104, 15, 105, 106, 107, 14, 108, 109, 31, 30, 110, 111, 112, 113, 114, 115, 10, 11, 116, 57, 58, 117, 118, 60, 61, 62, 41, 63, 64, 653, 654, 655, 656, 657, 658, 695, 696, 697, 698, 699, 710, 711, 712, 713, 714, 708, 709] (by decide +kernel) (by decide +kernel)
set_option maxRecDepth 20000 in
theorem gL_law_X7_voice : GoodIn wsL_law (wsV RL 13 RX7 yX7_voice wsX7_voice) := goodIn_app (goodIn_of _ (by decide +kernel)) ggL_law_X7_voice
set_option maxRecDepth 20000 in
theorem ggL_law_X8_voice : GoodIn wsL_law wsX8_voice := goodIn_r _ [122, 123, 659, 660, 661, 662, 663, 664, 665, 666, 667, 668, 669, 670, 671, 672, 673, 674, 675, 676, 677, 678, 679, 680, 681, 682, 683, 684, 685, 686, 687, 688, 689, 690, 691, 692, 693, 694] (by decide +kernel) (by decide +kernel)
set_option maxRecDepth 20000 in
theorem gL_law_X8_voice : GoodIn wsL_law (wsV RL 17 RX8 yX8_voice wsX8_voice) := goodIn_app (goodIn_of _ (by decide +kernel)) ggL_law_X8_voice
set_option maxRecDepth 20000 in
theorem ggL_law_X7_bars : GoodIn wsL_law wsX7_bars := goodIn_r _ [127, 15, 128, 129, 2, 130, 131, 132, 133, 14, 134, 135, 35, 136, 137, 138, 139, 31, 140, 141, 142, 58, 143, 144, 145, 146, 147, 63, 148, 149, 150, 34, 151, 152, 153, 154, 155, 156, 42, 157, 158, 159, 653, 654, 655, 656, 657, 658, 695, 696, 697, 698, 699, 710, 711, 712, 713, 714, 708, 709, 707] (by decide +kernel) (by decide +kernel)
set_option maxRecDepth 20000 in
theorem gL_law_X7_bars : GoodIn wsL_law (wsV RL 18 RX7 yX7_bars wsX7_bars) := goodIn_app (goodIn_of _ (by decide +kernel)) ggL_law_X7_bars
set_option maxRecDepth 20000 in
theorem ggL_law_X8_bars : GoodIn wsL_law wsX8_bars := goodIn_r _ [163, 164, 69, 75, 165, 166, 5, 167, 659, 660, 661, 662, 663, 664, 665, 666, 667, 668, 669, 670, 671, 672, 673, 674, 675, 676, 677, 678, 679, 680, 681, 682, 683, 684, 685, 686, 687, 688, 689, 690, 691, 692, 693, 694] (by decide +kernel) (by decide +kernel)
set_option maxRecDepth 20000 in
theorem gL_law_X8_bars : GoodIn wsL_law (wsV RL 22 RX8 yX8_bars wsX8_bars) := goodIn_app (goodIn_of _ (by decide +kernel)) ggL_law_X8_bars
set_option maxRecDepth 20000 in
theorem ggL_law_X7_note : GoodIn wsL_law wsX7_note := goodIn_r _ [171, 15, 172, 137, 138, 14, 139, 31, 173, 174, 175, 176, 135, 177, 178, 2, 179, 128, 129, 130, 180, 181, 182, 183, 184, 185, 186, 58, 187, 188, 189, 190, 191, 63, 192, 193, 194, 195, 64, 196, 197, 198, 199, 200, 201, 202, 203, 204, 205, 206, 207, 208, 209, 210, 211, 653, 654, 655, 656, 657, 658, 710, 711, 712, 713, 714, 695, 696, 697, 698, 699, 708, 709] (by decide +kernel) (by decide +kernel)
set_option maxRecDepth 20000 in
theorem gL_law_X7_note : GoodIn wsL_law (wsV RL 23 RX7 yX7_note wsX7_note) := goodIn_app (goodIn_of _ (by decide +kernel)) ggL_law_X7_note
set_option maxRecDepth 20000 in
theorem ggL_law_X8_note : GoodIn wsL_law wsX8_note := goodIn_r _ [215, 69, 70, 72, 71, 73, 216, 217, 218, 5, 219, 123, 165, 166, 167, 220, 221, 222, 223, 164, 224, 225, 226, 659, 660, 661, 662, 663, 664, 665, 666, 667, 668, 669, 670, 671, 672, 673, 674, 675, 676, 677, 678, 679, 680, 681, 682, 683, 684, 685, 686, 687, 688, 689, 690, 691, 692, 693, 694] (by decide +kernel) (by decide +kernel)
set_option maxRecDepth 20000 in
theorem gL_law_X8_note : GoodIn wsL_law (wsV RL 27 RX8 yX8_note wsX8_note) := goodIn_app (goodIn_of _ (by decide +kernel)) ggL_law_X8_note
set_option maxRecDepth 20000 in
theorem ggL_law_X7_drop : GoodIn wsL_law wsX7_drop := goodIn_r _ [230, 15, 172, 137, 138, 14, 139, 31, 173, 174, 175, 176, 135, 196, 189, 190, 58, 191, 63, 231, 141, 142, 143, 144, 145, 146, 147, 653, 654, 655, 656, 657, 658, 710, 711, 712, 713, 714, 695, 696, 697, 698, 699, 708, 709] (by decide +kernel) (by decide +kernel)
set_option maxRecDepth 20000 in
theorem gL_law_X7_drop : GoodIn wsL_law (wsV RL 28 RX7 yX7_drop wsX7_drop) := goodIn_app (goodIn_of _ (by decide +kernel)) ggL_law_X7_drop
set_option maxRecDepth 20000 in
theorem ggL_law_X8_drop : GoodIn wsL_law wsX8_drop := goodIn_r _ [235, 69, 216, 217, 218, 5, 219, 123, 165, 166, 167, 220, 221, 222, 223, 164, 659, 660, 661, 662, 663, 664, 665, 666, 667, 668, 669, 670, 671, 672, 673, 674, 675, 676, 677, 678, 679, 680, 681, 682, 683, 684, 685, 686, 687, 688, 689, 690, 691, 692, 693, 694] (by decide +kernel) (by decide +kernel)
set_option maxRecDepth 20000 in
theorem gL_law_X8_drop : GoodIn wsL_law (wsV RL 32 RX8 yX8_drop wsX8_drop) := goodIn_app (goodIn_of _ (by decide +kernel)) ggL_law_X8_drop
set_option maxRecDepth 20000 in
theorem ggL_law_X7_mark : GoodIn wsL_law wsX7_mark := goodIn_r _ [239, 15, 173, 174, 175, 14, 176, 135, 240, 241, 2, 242, 128, 129, 130, 243, 154, 155, 34, 156, 42, 157, 158, 159, 653, 654, 655, 656, 657, 658, 695, 696, 697, 698, 699, 707] (by decide +kernel) (by decide +kernel)
set_option maxRecDepth 20000 in
theorem gL_law_X7_mark : GoodIn wsL_law (wsV RL 33 RX7 yX7_mark wsX7_mark) := goodIn_app (goodIn_of _ (by decide +kernel)) ggL_law_X7_mark
