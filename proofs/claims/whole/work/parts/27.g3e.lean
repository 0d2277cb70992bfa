theorem ggL_rn0 : GoodIn wsL_law [Cond.code yX8_renew cX8_renew 5 (some .int)] := goodIn_r _ [528] (by decide +kernel) (by decide +kernel)
set_option maxRecDepth 20000 in
theorem ggL_rn1 : GoodIn wsL_law wsX8_renew_r1 := goodIn_r _ [529, 530, 97, 93, 98, 94, 99, 95, 100, 96, 430, 431, 432, 5, 433, 80, 216, 217, 218, 219, 123, 165, 166, 167] (by decide +kernel) (by decide +kernel)
set_option maxRecDepth 20000 in
theorem ggL_rn2 : GoodIn wsL_law wsX8_renew_r2 := goodIn_r _ [531, 532, 533, 534, 535, 91, 92, 536, 537, 538, 539, 81, 85, 90, 540, 541, 542, 543, 82, 84, 372, 373, 374, 375] (by decide +kernel) (by decide +kernel)
