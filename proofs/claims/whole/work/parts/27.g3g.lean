set_option maxRecDepth 20000 in
theorem ggL_law_X7_pages : GoodIn wsL_law wsX7_pages := goodIn_r _ [568, 15, 420, 421, 422, 14, 423, 136, 137, 138, 139, 31, 557, 558, 559, 2, 560, 19, 25, 26, 480, 481, 482, 18, 483, 484, 485, 486, 487, 488, 489, 50, 490, 478, 146, 479, 491, 306, 307, 23, 308, 55, 298, 299, 300, 301, 284, 492, 493, 494, 495, 496, 497, 498, 499, 500, 501, 502, 503, 51, 504, 505, 506, 507, 508, 509, 510, 511, 512, 513, 514, 515, 653, 654, 655, 656, 657, 658, 710, 711, 712, 713, 714, 695, 696, 697, 698, 699, 700, 701, 702, 703, 704, 705, 706] (by decide +kernel) (by decide +kernel)
set_option maxRecDepth 20000 in
theorem gL_law_X7_pages : GoodIn wsL_law (wsV RL 79 RX7 yX7_pages wsX7_pages) := goodIn_app (goodIn_of _ (by decide +kernel)) ggL_law_X7_pages
set_option maxRecDepth 20000 in
theorem ggL_law_X8_pages : GoodIn wsL_law wsX8_pages := goodIn_r _ [572, 529, 430, 431, 432, 5, 433, 80, 216, 217, 218, 219, 123, 165, 166, 167, 531, 532, 533, 534, 535, 91, 92, 93, 94, 95, 96, 536, 537, 538, 539, 81, 85, 90, 540, 541, 542, 543, 82, 84, 659, 660, 661, 662, 663, 664, 665, 666, 667, 668, 669, 670, 671, 672, 673, 674, 675, 676, 677, 678, 679, 680, 681, 682, 683, 684, 685, 686, 687, 688, 689, 690, 691, 692, 693, 694] (by decide +kernel) (by decide +kernel)
set_option maxRecDepth 20000 in
theorem gL_law_X8_pages : GoodIn wsL_law (wsV RL 82 RX8 yX8_pages wsX8_pages) := goodIn_app (goodIn_of _ (by decide +kernel)) ggL_law_X8_pages
set_option maxRecDepth 20000 in
theorem ggL_law_X7_page : GoodIn wsL_law wsX7_page := goodIn_r _ [576, 15, 19, 420, 421, 422, 14, 423, 136, 137, 138, 139, 31, 557, 558, 559, 2, 560, 25, 26, 480, 481, 482, 18, 483, 484, 485, 486, 487, 488, 489, 50, 490, 478, 146, 479, 491, 306, 307, 23, 308, 55, 298, 299, 300, 301, 284, 492, 493, 494, 495, 496, 497, 498, 499, 500, 501, 502, 503, 51, 504, 505, 506, 507, 508, 509, 510, 511, 512, 513, 514, 515, 128, 129, 130, 577, 578, 579, 580, 581, 582, 583, 520, 521, 522, 523, 653, 654, 655, 656, 657, 658, 710, 711, 712, 713, 714, 695, 696, 697, 698, 699, 700, 701, 702, 703, 704, 705, 706] (by decide +kernel) (by decide +kernel)
set_option maxRecDepth 20000 in
theorem gL_law_X7_page : GoodIn wsL_law (wsV RL 83 RX7 yX7_page wsX7_page) := goodIn_app (goodIn_of _ (by decide +kernel)) ggL_law_X7_page
set_option maxRecDepth 20000 in
theorem ggL_law_X8_page : GoodIn wsL_law wsX8_page := goodIn_r _ [587, 529, 93, 94, 95, 96, 430, 431, 432, 5, 433, 80, 216, 217, 218, 219, 123, 165, 166, 167, 588, 589, 590, 591, 531, 532, 533, 534, 535, 91, 92, 536, 537, 538, 539, 81, 85, 90, 540, 541, 542, 543, 82, 84, 592, 593, 594, 659, 660, 661, 662, 663, 664, 665, 666, 667, 668, 669, 670, 671, 672, 673, 674, 675, 676, 677, 678, 679, 680, 681, 682, 683, 684, 685, 686, 687, 688, 689, 690, 691, 692, 693, 694] (by decide +kernel) (by decide +kernel)
set_option maxRecDepth 20000 in
theorem gL_law_X8_page : GoodIn wsL_law (wsV RL 86 RX8 yX8_page wsX8_page) := goodIn_app (goodIn_of _ (by decide +kernel)) ggL_law_X8_page
