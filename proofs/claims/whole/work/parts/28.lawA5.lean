set_option maxRecDepth 20000 in
theorem inL_r21 : GoodIn lw_tbl wsL_law_r21 := goodIn_p _ [599, 374, 377, 603, 381, 384, 607] (by decide +kernel) (by decide +kernel)
set_option maxRecDepth 20000 in
theorem inL_r22 : GoodIn lw_tbl wsL_law_r22 := goodIn_p _ [389, 393, 396, 611, 615] (by decide +kernel) (by decide +kernel)
set_option maxRecDepth 20000 in
theorem inL_r23 : GoodIn lw_tbl wsL_law_r23 := goodIn_p _ [403, 619, 407, 411, 623] (by decide +kernel) (by decide +kernel)
set_option maxRecDepth 20000 in
theorem inL_x1 : GoodIn lw_tbl wsX10 := goodIn_p _ [] (by decide +kernel) (by decide +kernel)
