set_option maxRecDepth 20000 in
theorem inL_r1 : GoodIn lw_tbl wsL_law_r1 := goodIn_p _ [44, 47] (by decide +kernel) (by decide +kernel)
set_option maxRecDepth 20000 in
theorem inL_r2 : GoodIn lw_tbl wsL_law_r2 := goodIn_p _ [55, 60, 63, 67, 70] (by decide +kernel) (by decide +kernel)
set_option maxRecDepth 20000 in
theorem inL_r3 : GoodIn lw_tbl wsL_law_r3 := goodIn_p _ [74, 78, 416, 118, 122] (by decide +kernel) (by decide +kernel)
set_option maxRecDepth 20000 in
theorem inL_r4 : GoodIn lw_tbl wsL_law_r4 := goodIn_p _ [125, 130, 134, 443, 446, 449] (by decide +kernel) (by decide +kernel)
