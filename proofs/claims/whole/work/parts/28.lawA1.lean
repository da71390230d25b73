set_option maxRecDepth 20000 in
theorem inL_r5 : GoodIn lw_tbl wsL_law_r5 := goodIn_p _ [453, 138, 142, 146, 457, 461] (by decide +kernel) (by decide +kernel)
set_option maxRecDepth 20000 in
theorem inL_r6 : GoodIn lw_tbl wsL_law_r6 := goodIn_p _ [465, 152, 155, 469, 161, 165] (by decide +kernel) (by decide +kernel)
set_option maxRecDepth 20000 in
theorem inL_r7 : GoodIn lw_tbl wsL_law_r7 := goodIn_p _ [473, 477, 169, 173, 177, 181] (by decide +kernel) (by decide +kernel)
set_option maxRecDepth 20000 in
theorem inL_r8 : GoodIn lw_tbl wsL_law_r8 := goodIn_p _ [185, 481, 485, 189, 489] (by decide +kernel) (by decide +kernel)
