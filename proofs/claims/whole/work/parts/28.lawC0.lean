theorem inlX1 : ∀ w ∈ wsX10, w ∈ wsL_law := fun _ h => List.mem_append_left _ (List.mem_append_right _ h)
theorem inlX2 : ∀ w ∈ wsX20, w ∈ wsL_law := fun _ h => List.mem_append_left _ (List.mem_append_left _ (List.mem_append_left _ (List.mem_append_right _ h)))
theorem inlX3 : ∀ w ∈ wsX30, w ∈ wsL_law := fun _ h => List.mem_append_left _ (List.mem_append_left _ (List.mem_append_right _ h))
set_option maxRecDepth 20000 in
theorem ggL_law_X2_init : GoodIn wsL_law wsX2_init := goodIn_r _ [8, 9, 10, 11, 12, 13, 14, 15, 16, 17, 18, 19, 20, 21, 22, 23, 24, 25, 26, 27, 28, 29, 30, 31, 32, 33, 34, 35, 36, 2, 37, 38, 39, 40, 41, 42, 43, 44, 45, 46, 47, 48, 49, 50, 51, 52, 547, 548, 549, 550, 551, 552, 553, 561, 562, 563, 564] (by decide +kernel) (by decide +kernel)
set_option maxRecDepth 20000 in
theorem gL_law_X2_init : GoodIn wsL_law (wsX2_init) := ggL_law_X2_init
set_option maxRecDepth 20000 in
theorem ggL_law_X3_init : GoodIn wsL_law wsX3_init := goodIn_r _ [55, 56, 10, 11, 15, 57, 58, 59, 60, 61, 62, 63, 554, 555, 556, 557, 558, 559, 560] (by decide +kernel) (by decide +kernel)
set_option maxRecDepth 20000 in
theorem gL_law_X3_init : GoodIn wsL_law (wsX3_init) := ggL_law_X3_init
set_option maxRecDepth 20000 in
theorem ggL_law_X2_world : GoodIn wsL_law wsX2_world := goodIn_r _ [67, 20, 68, 69, 70, 2, 71, 13, 72, 73, 74, 75, 36, 37, 76, 77, 78, 18, 79, 28, 29, 30, 38, 39, 40, 41, 31, 42, 43, 44, 45, 46, 47, 48, 49, 50, 51, 52, 80, 81, 82, 83, 547, 548, 549, 550, 551, 552, 553, 561, 562, 563, 564] (by decide +kernel) (by decide +kernel)
set_option maxRecDepth 20000 in
theorem gL_law_X2_world : GoodIn wsL_law (wsV RL 13 RX2 yX2_world wsX2_world) := goodIn_app (goodIn_of _ (by decide +kernel)) ggL_law_X2_world
set_option maxRecDepth 20000 in
theorem ggL_law_X3_world : GoodIn wsL_law wsX3_world := goodIn_r _ [87, 88, 89, 5, 90, 91, 92, 93, 94, 95, 96, 97, 57, 58, 554, 555, 556, 557, 558, 559, 560] (by decide +kernel) (by decide +kernel)
set_option maxRecDepth 20000 in
theorem gL_law_X3_world : GoodIn wsL_law (wsV RL 17 RX3 yX3_world wsX3_world) := goodIn_app (goodIn_of _ (by decide +kernel)) ggL_law_X3_world
set_option maxRecDepth 20000 in
theorem ggL_law_X2_put : GoodIn wsL_law wsX2_put := goodIn_r _ [101, 68, 69, 70, 2, 71, 13, 102, 103, 104, 18, 105, 29, 106, 107, 108, 109, 28, 110, 50, 51, 52, 30, 36, 37, 111, 33, 34, 35, 38, 39, 40, 41, 31, 42, 43, 44, 45, 46, 47, 48, 49, 547, 548, 549, 550, 551, 552, 553, 561, 562, 563, 564] (by decide +kernel) (by decide +kernel)
set_option maxRecDepth 20000 in
theorem gL_law_X2_put : GoodIn wsL_law (wsV RL 18 RX2 yX2_put wsX2_put) := goodIn_app (goodIn_of _ (by decide +kernel)) ggL_law_X2_put
set_option maxRecDepth 20000 in
theorem ggL_law_X3_put : GoodIn wsL_law wsX3_put := goodIn_r _ [115, 57, 58, 88, 89, 5, 90, 91, 92, 93, 116, 117, 118, 119, 120, 121, 122, 123, 554, 555, 556, 557, 558, 559, 560] (by decide +kernel) (by decide +kernel)
set_option maxRecDepth 20000 in
theorem gL_law_X3_put : GoodIn wsL_law (wsV RL 22 RX3 yX3_put wsX3_put) := goodIn_app (goodIn_of _ (by decide +kernel)) ggL_law_X3_put
set_option maxRecDepth 20000 in
theorem ggL_law_X2_field : GoodIn wsL_law wsX2_field := goodIn_r _ [127, 20, 68, 69, 70, 2, 71, 13, 72, 73, 74, 75, 36, 37, 128, 129, 130, 131, 76, 77, 78, 18, 79, 28, 29, 30, 38, 39, 40, 41, 31, 42, 43, 44, 45, 46, 47, 48, 49, 50, 51, 52, 80, 81, 82, 83, 547, 548, 549, 550, 551, 552, 553, 561, 562, 563, 564] (by decide +kernel) (by decide +kernel)
set_option maxRecDepth 20000 in
theorem gL_law_X2_field : GoodIn wsL_law (wsV RL 23 RX2 yX2_field wsX2_field) := goodIn_app (goodIn_of _ (by decide +kernel)) ggL_law_X2_field
set_option maxRecDepth 20000 in
theorem ggL_law_X3_field : GoodIn wsL_law wsX3_field := goodIn_r _ [135, 58, 88, 89, 5, 90, 91, 92, 93, 94, 95, 96, 97, 57, 554, 555, 556, 557, 558, 559, 560] (by decide +kernel) (by decide +kernel)
set_option maxRecDepth 20000 in
theorem gL_law_X3_field : GoodIn wsL_law (wsV RL 26 RX3 yX3_field wsX3_field) := goodIn_app (goodIn_of _ (by decide +kernel)) ggL_law_X3_field
set_option maxRecDepth 20000 in
theorem ggL_law_X2_product : GoodIn wsL_law wsX2_product := goodIn_r _ [139, 68, 69, 70, 2, 71, 13, 102, 103, 104, 18, 105, 29, 140, 141, 142, 143, 31, 42, 43, 44, 547, 548, 549, 550, 551, 552, 553, 561, 562, 563, 564] (by decide +kernel) (by decide +kernel)
set_option maxRecDepth 20000 in
theorem gL_law_X2_product : GoodIn wsL_law (wsV RL 27 RX2 yX2_product wsX2_product) := goodIn_app (goodIn_of _ (by decide +kernel)) ggL_law_X2_product
set_option maxRecDepth 20000 in
theorem ggL_law_X3_product : GoodIn wsL_law wsX3_product := goodIn_r _ [147, 88, 89, 5, 90, 91, 92, 93, 116, 117, 118, 119, 120, 121, 122, 123, 57, 148, 149, 150, 151, 58, 554, 555, 556, 557, 558, 559, 560] (by decide +kernel) (by decide +kernel)
set_option maxRecDepth 20000 in
theorem gL_law_X3_product : GoodIn wsL_law (wsV RL 31 RX3 yX3_product wsX3_product) := goodIn_app (goodIn_of _ (by decide +kernel)) ggL_law_X3_product
set_option maxRecDepth 20000 in
theorem ggL_law_X2_divides : GoodIn wsL_law wsX2_divides := goodIn_r _ [155, 68, 69, 70, 2, 71, 13, 156, 157, 158, 18, 159, 160, 161, 162, 163, 29, 164, 165, 166, 167, 168, 141, 142, 143, 31, 42, 43, 44, 169, 170, 171, 547, 548, 549, 550, 551, 552, 553, 561, 562, 563, 564] (by decide +kernel) (by decide +kernel)
set_option maxRecDepth 20000 in
theorem gL_law_X2_divides : GoodIn wsL_law (wsV RL 32 RX2 yX2_divides wsX2_divides) := goodIn_app (goodIn_of _ (by decide +kernel)) ggL_law_X2_divides
set_option maxRecDepth 20000 in
theorem ggL_law_X3_divides : GoodIn wsL_law wsX3_divides := goodIn_r _ [175, 88, 89, 5, 90, 91, 92, 93, 176, 177, 178, 179, 120, 121, 122, 123, 57, 148, 149, 150, 151, 58, 554, 555, 556, 557, 558, 559, 560] (by decide +kernel) (by decide +kernel)
set_option maxRecDepth 20000 in
theorem gL_law_X3_divides : GoodIn wsL_law (wsV RL 36 RX3 yX3_divides wsX3_divides) := goodIn_app (goodIn_of _ (by decide +kernel)) ggL_law_X3_divides
