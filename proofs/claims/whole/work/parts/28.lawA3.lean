set_option maxRecDepth 20000 in
theorem inL_r13 : GoodIn lw_tbl wsL_law_r13 := goodIn_p _ [525, 260, 529, 264, 268, 533] (by decide +kernel) (by decide +kernel)
set_option maxRecDepth 20000 in
theorem inL_r14 : GoodIn lw_tbl wsL_law_r14 := goodIn_p _ [272, 276, 279, 537, 540, 283, 286] (by decide +kernel) (by decide +kernel)
set_option maxRecDepth 20000 in
theorem inL_r15 : GoodIn lw_tbl wsL_law_r15 := goodIn_p _ [544, 548, 290, 293, 552, 556] (by decide +kernel) (by decide +kernel)
set_option maxRecDepth 20000 in
theorem inL_r16 : GoodIn lw_tbl wsL_law_r16 := goodIn_p _ [297, 301, 305, 560, 309, 312] (by decide +kernel) (by decide +kernel)
