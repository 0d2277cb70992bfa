set_option maxRecDepth 20000 in
theorem ggL_law_X7_condensed : GoodIn wsL_law wsX7_condensed := goodIn_r _ [598, 15, 172, 137, 138, 14, 139, 31, 173, 174, 175, 176, 135, 599, 600, 2, 601, 196, 189, 190, 58, 191, 63, 602, 458, 459, 460, 188, 192, 193, 194, 195, 64, 603, 604, 605, 606, 607, 608, 609, 610, 653, 654, 655, 656, 657, 658, 710, 711, 712, 713, 714, 695, 696, 697, 698, 699, 708, 709] (by decide +kernel) (by decide +kernel)
set_option maxRecDepth 20000 in
theorem gL_law_X7_condensed : GoodIn wsL_law (wsV RL 87 RX7 yX7_condensed wsX7_condensed) := goodIn_app (goodIn_of _ (by decide +kernel)) ggL_law_X7_condensed
set_option maxRecDepth 20000 in
theorem ggL_law_X8_condensed : GoodIn wsL_law wsX8_condensed := goodIn_r _ [614, 216, 217, 218, 5, 219, 123, 165, 166, 167, 220, 221, 222, 223, 164, 615, 616, 617, 618, 69, 619, 620, 621, 622, 70, 71, 72, 73, 659, 660, 661, 662, 663, 664, 665, 666, 667, 668, 669, 670, 671, 672, 673, 674, 675, 676, 677, 678, 679, 680, 681, 682, 683, 684, 685, 686, 687, 688, 689, 690, 691, 692, 693, 694] (by decide +kernel) (by decide +kernel)
set_option maxRecDepth 20000 in
theorem gL_law_X8_condensed : GoodIn wsL_law (wsV RL 90 RX8 yX8_condensed wsX8_condensed) := goodIn_app (goodIn_of _ (by decide +kernel)) ggL_law_X8_condensed
set_option maxRecDepth 20000 in
theorem ggL_law_X7_together : GoodIn wsL_law wsX7_together := goodIn_r _ [626, 15, 172, 137, 138, 14, 139, 31, 599, 600, 2, 601, 196, 189, 190, 58, 191, 63, 602, 458, 459, 460, 188, 192, 193, 194, 195, 64, 603, 604, 605, 606, 607, 608, 609, 610, 653, 654, 655, 656, 657, 658, 695, 696, 697, 698, 699, 710, 711, 712, 713, 714, 708, 709] (by decide +kernel) (by decide +kernel)
set_option maxRecDepth 20000 in
theorem gL_law_X7_together : GoodIn wsL_law (wsV RL 91 RX7 yX7_together wsX7_together) := goodIn_app (goodIn_of _ (by decide +kernel)) ggL_law_X7_together
set_option maxRecDepth 20000 in
theorem ggL_law_X8_together : GoodIn wsL_law wsX8_together := goodIn_r _ [630, 164, 216, 217, 218, 5, 219, 123, 165, 166, 167, 615, 616, 617, 618, 69, 619, 620, 621, 622, 70, 71, 72, 73, 659, 660, 661, 662, 663, 664, 665, 666, 667, 668, 669, 670, 671, 672, 673, 674, 675, 676, 677, 678, 679, 680, 681, 682, 683, 684, 685, 686, 687, 688, 689, 690, 691, 692, 693, 694] (by decide +kernel) (by decide +kernel)
set_option maxRecDepth 20000 in
theorem gL_law_X8_together : GoodIn wsL_law (wsV RL 94 RX8 yX8_together wsX8_together) := goodIn_app (goodIn_of _ (by decide +kernel)) ggL_law_X8_together
