set_option maxRecDepth 20000 in
theorem ggL_law_X2_broken : GoodIn wsL_law wsX2_broken := goodIn_r _ [183, 68, 69, 70, 2, 71, 13, 184, 161, 162, 18, 163, 29, 164, 165, 166, 167, 168, 141, 142, 143, 31, 42, 43, 44, 185, 547, 548, 549, 550, 551, 552, 553, 561, 562, 563, 564] (by decide +kernel) (by decide +kernel)
set_option maxRecDepth 20000 in
theorem gL_law_X2_broken : GoodIn wsL_law (wsV RL 37 RX2 yX2_broken wsX2_broken) := goodIn_app (goodIn_of _ (by decide +kernel)) ggL_law_X2_broken
set_option maxRecDepth 20000 in
theorem ggL_law_X3_broken : GoodIn wsL_law wsX3_broken := goodIn_r _ [189, 88, 89, 5, 90, 91, 92, 93, 176, 177, 178, 179, 120, 121, 122, 123, 57, 148, 149, 150, 151, 58, 554, 555, 556, 557, 558, 559, 560] (by decide +kernel) (by decide +kernel)
set_option maxRecDepth 20000 in
theorem gL_law_X3_broken : GoodIn wsL_law (wsV RL 41 RX3 yX3_broken wsX3_broken) := goodIn_app (goodIn_of _ (by decide +kernel)) ggL_law_X3_broken
set_option maxRecDepth 20000 in
theorem ggL_law_X2_one : GoodIn wsL_law wsX2_one := goodIn_r _ [193, 68, 69, 70, 2, 71, 13, 194, 195, 196, 18, 197, 29, 198, 199, 200, 201, 168, 141, 142, 143, 31, 42, 43, 44, 547, 548, 549, 550, 551, 552, 553, 561, 562, 563, 564] (by decide +kernel) (by decide +kernel)
set_option maxRecDepth 20000 in
theorem gL_law_X2_one : GoodIn wsL_law (wsV RL 42 RX2 yX2_one wsX2_one) := goodIn_app (goodIn_of _ (by decide +kernel)) ggL_law_X2_one
set_option maxRecDepth 20000 in
theorem ggL_law_X3_one : GoodIn wsL_law wsX3_one := goodIn_r _ [205, 88, 89, 5, 90, 91, 92, 93, 120, 121, 122, 123, 57, 148, 149, 150, 151, 58, 554, 555, 556, 557, 558, 559, 560] (by decide +kernel) (by decide +kernel)
set_option maxRecDepth 20000 in
theorem gL_law_X3_one : GoodIn wsL_law (wsV RL 45 RX3 yX3_one wsX3_one) := goodIn_app (goodIn_of _ (by decide +kernel)) ggL_law_X3_one
set_option maxRecDepth 20000 in
theorem ggL_law_X2_quotient : GoodIn wsL_law wsX2_quotient := goodIn_r _ [209, 68, 69, 70, 2, 71, 13, 102, 103, 104, 18, 105, 29, 210, 211, 212, 213, 168, 141, 142, 143, 31, 42, 43, 44, 547, 548, 549, 550, 551, 552, 553, 561, 562, 563, 564] (by decide +kernel) (by decide +kernel)
set_option maxRecDepth 20000 in
theorem gL_law_X2_quotient : GoodIn wsL_law (wsV RL 46 RX2 yX2_quotient wsX2_quotient) := goodIn_app (goodIn_of _ (by decide +kernel)) ggL_law_X2_quotient
set_option maxRecDepth 20000 in
theorem ggL_law_X3_quotient : GoodIn wsL_law wsX3_quotient := goodIn_r _ [217, 88, 89, 5, 90, 91, 92, 93, 116, 117, 118, 119, 120, 121, 122, 123, 57, 148, 149, 150, 151, 58, 554, 555, 556, 557, 558, 559, 560] (by decide +kernel) (by decide +kernel)
set_option maxRecDepth 20000 in
theorem gL_law_X3_quotient : GoodIn wsL_law (wsV RL 50 RX3 yX3_quotient wsX3_quotient) := goodIn_app (goodIn_of _ (by decide +kernel)) ggL_law_X3_quotient
set_option maxRecDepth 20000 in
theorem ggL_law_X2_turn : GoodIn wsL_law wsX2_turn := goodIn_r _ [221, 20, 68, 69, 70, 2, 71, 13, 222, 223, 224, 18, 225, 28, 75, 36, 37, 226, 227, 228, 229, 230, 231, 232, 233, 234, 235, 49, 50, 51, 52, 30, 76, 77, 78, 79, 29, 38, 39, 40, 41, 31, 42, 43, 44, 45, 46, 47, 48, 547, 548, 549, 550, 551, 552, 553, 561, 562, 563, 564] (by decide +kernel) (by decide +kernel)
set_option maxRecDepth 20000 in
theorem gL_law_X2_turn : GoodIn wsL_law (wsV RL 51 RX2 yX2_turn wsX2_turn) := goodIn_app (goodIn_of _ (by decide +kernel)) ggL_law_X2_turn
set_option maxRecDepth 20000 in
theorem ggL_law_X3_turn : GoodIn wsL_law wsX3_turn := goodIn_r _ [239, 57, 58, 88, 89, 5, 90, 91, 92, 93, 94, 95, 96, 97, 240, 241, 242, 243, 244, 245, 246, 247, 248, 249, 250, 251, 554, 555, 556, 557, 558, 559, 560] (by decide +kernel) (by decide +kernel)
set_option maxRecDepth 20000 in
theorem gL_law_X3_turn : GoodIn wsL_law (wsV RL 54 RX3 yX3_turn wsX3_turn) := goodIn_app (goodIn_of _ (by decide +kernel)) ggL_law_X3_turn
set_option maxRecDepth 20000 in
theorem ggL_law_X2_joins : GoodIn wsL_law wsX2_joins := goodIn_r _ [255, 68, 69, 70, 2, 71, 13, 102, 103, 104, 18, 105, 29, 256, 257, 258, 259, 260, 261, 262, 263, 264, 265, 266, 28, 168, 141, 142, 143, 31, 42, 43, 44, 267, 268, 269, 270, 271, 272, 273, 274, 275, 276, 277, 278, 169, 170, 171, 547, 548, 549, 550, 551, 552, 553, 561, 562, 563, 564] (by decide +kernel) (by decide +kernel)
set_option maxRecDepth 20000 in
theorem gL_law_X2_joins : GoodIn wsL_law (wsV RL 55 RX2 yX2_joins wsX2_joins) := goodIn_app (goodIn_of _ (by decide +kernel)) ggL_law_X2_joins
set_option maxRecDepth 20000 in
theorem ggL_law_X3_joins : GoodIn wsL_law wsX3_joins := goodIn_r _ [282, 88, 89, 5, 90, 91, 92, 93, 116, 117, 118, 119, 120, 121, 122, 123, 57, 283, 284, 285, 286, 148, 149, 150, 151, 58, 287, 288, 289, 290, 554, 555, 556, 557, 558, 559, 560] (by decide +kernel) (by decide +kernel)
set_option maxRecDepth 20000 in
theorem gL_law_X3_joins : GoodIn wsL_law (wsV RL 58 RX3 yX3_joins wsX3_joins) := goodIn_app (goodIn_of _ (by decide +kernel)) ggL_law_X3_joins
set_option maxRecDepth 20000 in
theorem ggL_law_X2_many : GoodIn wsL_law wsX2_many := goodIn_r _ [294, 68, 69, 70, 2, 71, 13, 256, 257, 258, 80, 81, 82, 18, 83, 29, 259, 260, 261, 262, 263, 264, 265, 266, 28, 168, 141, 142, 143, 31, 42, 43, 44, 267, 268, 269, 270, 271, 272, 273, 274, 275, 276, 277, 278, 547, 548, 549, 550, 551, 552, 553, 561, 562, 563, 564] (by decide +kernel) (by decide +kernel)
set_option maxRecDepth 20000 in
theorem gL_law_X2_many : GoodIn wsL_law (wsV RL 59 RX2 yX2_many wsX2_many) := goodIn_app (goodIn_of _ (by decide +kernel)) ggL_law_X2_many
set_option maxRecDepth 20000 in
theorem ggL_law_X3_many : GoodIn wsL_law wsX3_many := goodIn_r _ [298, 88, 89, 5, 90, 91, 92, 93, 120, 121, 122, 123, 57, 283, 284, 285, 286, 148, 149, 150, 151, 58, 287, 288, 289, 290, 554, 555, 556, 557, 558, 559, 560] (by decide +kernel) (by decide +kernel)
set_option maxRecDepth 20000 in
theorem gL_law_X3_many : GoodIn wsL_law (wsV RL 62 RX3 yX3_many wsX3_many) := goodIn_app (goodIn_of _ (by decide +kernel)) ggL_law_X3_many
set_option maxRecDepth 20000 in
theorem ggL_law_X2_unlike : GoodIn wsL_law wsX2_unlike := goodIn_r _ [302, 68, 69, 70, 2, 71, 13, 303, 304, 305, 18, 306, 29, 168, 141, 142, 143, 31, 42, 43, 44, 547, 548, 549, 550, 551, 552, 553, 561, 562, 563, 564] (by decide +kernel) (by decide +kernel)
set_option maxRecDepth 20000 in
theorem gL_law_X2_unlike : GoodIn wsL_law (wsV RL 63 RX2 yX2_unlike wsX2_unlike) := goodIn_app (goodIn_of _ (by decide +kernel)) ggL_law_X2_unlike
set_option maxRecDepth 20000 in
theorem ggL_law_X3_unlike : GoodIn wsL_law wsX3_unlike := goodIn_r _ [310, 88, 89, 5, 90, 91, 92, 93, 120, 121, 122, 123, 57, 148, 149, 150, 151, 58, 554, 555, 556, 557, 558, 559, 560] (by decide +kernel) (by decide +kernel)
