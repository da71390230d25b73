set_option maxRecDepth 20000 in
theorem inL_r17 : GoodIn lw_tbl wsL_law_r17 := goodIn_p _ [564, 568, 316, 320, 323, 327] (by decide +kernel) (by decide +kernel)
set_option maxRecDepth 20000 in
theorem inL_r18 : GoodIn lw_tbl wsL_law_r18 := goodIn_p _ [331, 572, 575, 579, 335, 338, 341] (by decide +kernel) (by decide +kernel)
set_option maxRecDepth 20000 in
theorem inL_r19 : GoodIn lw_tbl wsL_law_r19 := goodIn_p _ [344, 348, 351, 356, 583, 587] (by decide +kernel) (by decide +kernel)
set_option maxRecDepth 20000 in
theorem inL_r20 : GoodIn lw_tbl wsL_law_r20 := goodIn_p _ [591, 360, 363, 366, 369, 595] (by decide +kernel) (by decide +kernel)
