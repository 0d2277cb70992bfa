set_option maxRecDepth 20000 in
theorem ggL_rn3 : GoodIn wsL_law wsX8_renew_r3 := goodIn_r _ [164, 376, 377, 378, 379, 380, 381, 382, 383, 69, 384, 385, 386, 387, 83, 87, 86, 88, 77, 89, 70, 71, 72, 78] (by decide +kernel) (by decide +kernel)
set_option maxRecDepth 20000 in
theorem ggL_rn4 : GoodIn wsL_law wsX8_renew_r4 := goodIn_r _ [73, 388, 389, 390, 391, 392, 393, 394, 395, 75, 76, 396, 397, 398, 399, 400, 401, 402, 403, 404, 405, 406, 407, 224] (by decide +kernel) (by decide +kernel)
set_option maxRecDepth 20000 in
theorem ggL_rn5 : GoodIn wsL_law wsX8_renew_r5 := goodIn_r _ [225, 226, 408, 409, 410, 411, 79, 465, 466, 467, 468, 412, 413, 414, 415] (by decide +kernel) (by decide +kernel)
set_option maxRecDepth 20000 in
theorem ggL_rn6 : GoodIn wsL_law wsX80 := goodIn_sub inlX8 (by decide +kernel)
theorem ggL_law_X8_renew : GoodIn wsL_law wsX8_renew := goodIn_ca (goodIn_app (a := [_]) ggL_rn0 (goodIn_app ggL_rn1 (goodIn_app ggL_rn2 (goodIn_app ggL_rn3 (goodIn_app ggL_rn4 ggL_rn5))))) ggL_rn6
set_option maxRecDepth 20000 in
theorem gL_law_X8_renew : GoodIn wsL_law (wsV RL 70 RX8 yX8_renew wsX8_renew) := goodIn_app (goodIn_of _ (by decide +kernel)) ggL_law_X8_renew
