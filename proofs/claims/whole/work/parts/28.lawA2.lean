set_option maxRecDepth 20000 in
theorem inL_r9 : GoodIn lw_tbl wsL_law_r9 := goodIn_p _ [195, 199, 203, 493, 207, 211] (by decide +kernel) (by decide +kernel)
set_option maxRecDepth 20000 in
theorem inL_r10 : GoodIn lw_tbl wsL_law_r10 := goodIn_p _ [497, 215, 219, 222, 225, 229, 501] (by decide +kernel) (by decide +kernel)
set_option maxRecDepth 20000 in
theorem inL_r11 : GoodIn lw_tbl wsL_law_r11 := goodIn_p _ [505, 509, 513, 233, 236, 240] (by decide +kernel) (by decide +kernel)
set_option maxRecDepth 20000 in
theorem inL_r12 : GoodIn lw_tbl wsL_law_r12 := goodIn_p _ [244, 248, 252, 256, 517, 521] (by decide +kernel) (by decide +kernel)
