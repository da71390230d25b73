set_option maxRecDepth 20000 in
theorem gL_law_X3_unlike : GoodIn wsL_law (wsV RL 66 RX3 yX3_unlike wsX3_unlike) := goodIn_app (goodIn_of _ (by decide +kernel)) ggL_law_X3_unlike
set_option maxRecDepth 20000 in
theorem ggL_law_X2_map : GoodIn wsL_law wsX2_map := goodIn_r _ [314, 315, 316, 317, 2, 318, 16, 319, 320, 321, 547, 548, 549, 550, 551, 552, 553] (by decide +kernel) (by decide +kernel)
set_option maxRecDepth 20000 in
theorem gL_law_X2_map : GoodIn wsL_law (wsV RL 67 RX2 yX2_map wsX2_map) := goodIn_app (goodIn_of _ (by decide +kernel)) ggL_law_X2_map
set_option maxRecDepth 20000 in
theorem ggL_law_X3_map : GoodIn wsL_law wsX3_map := goodIn_r _ [325, 59, 326, 327, 5, 328, 91, 92, 93, 554, 555, 556, 557, 558, 559, 560] (by decide +kernel) (by decide +kernel)
set_option maxRecDepth 20000 in
theorem gL_law_X3_map : GoodIn wsL_law (wsV RL 70 RX3 yX3_map wsX3_map) := goodIn_app (goodIn_of _ (by decide +kernel)) ggL_law_X3_map
set_option maxRecDepth 20000 in
theorem ggL_law_X2_gives : GoodIn wsL_law wsX2_gives := goodIn_r _ [332, 315, 316, 317, 2, 318, 16, 319, 320, 321, 333, 334, 335, 547, 548, 549, 550, 551, 552, 553] (by decide +kernel) (by decide +kernel)
set_option maxRecDepth 20000 in
theorem gL_law_X2_gives : GoodIn wsL_law (wsV RL 71 RX2 yX2_gives wsX2_gives) := goodIn_app (goodIn_of _ (by decide +kernel)) ggL_law_X2_gives
set_option maxRecDepth 20000 in
theorem ggL_law_X3_gives : GoodIn wsL_law wsX3_gives := goodIn_r _ [339, 326, 327, 5, 328, 91, 92, 93, 340, 341, 342, 343, 59, 554, 555, 556, 557, 558, 559, 560] (by decide +kernel) (by decide +kernel)
set_option maxRecDepth 20000 in
theorem gL_law_X3_gives : GoodIn wsL_law (wsV RL 74 RX3 yX3_gives wsX3_gives) := goodIn_app (goodIn_of _ (by decide +kernel)) ggL_law_X3_gives
set_option maxRecDepth 20000 in
theorem ggL_law_X2_fits : GoodIn wsL_law wsX2_fits := goodIn_r _ [347, 315, 316, 317, 2, 318, 16, 72, 73, 74, 348, 349, 350, 333, 334, 335, 169, 170, 171, 547, 548, 549, 550, 551, 552, 553] (by decide +kernel) (by decide +kernel)
set_option maxRecDepth 20000 in
theorem gL_law_X2_fits : GoodIn wsL_law (wsV RL 75 RX2 yX2_fits wsX2_fits) := goodIn_app (goodIn_of _ (by decide +kernel)) ggL_law_X2_fits
set_option maxRecDepth 20000 in
theorem ggL_law_X3_fits : GoodIn wsL_law wsX3_fits := goodIn_r _ [354, 326, 327, 5, 328, 91, 92, 93, 355, 356, 357, 358, 340, 341, 342, 343, 59, 554, 555, 556, 557, 558, 559, 560] (by decide +kernel) (by decide +kernel)
set_option maxRecDepth 20000 in
theorem gL_law_X3_fits : GoodIn wsL_law (wsV RL 78 RX3 yX3_fits wsX3_fits) := goodIn_app (goodIn_of _ (by decide +kernel)) ggL_law_X3_fits
set_option maxRecDepth 20000 in
theorem ggL_law_X2_alike : GoodIn wsL_law wsX2_alike := goodIn_r _ [362, 68, 69, 70, 2, 71, 13, 222, 223, 224, 18, 225, 28, 363, 364, 365, 366, 16, 348, 349, 350, 333, 334, 335, 367, 368, 369, 370, 140, 141, 142, 143, 31, 42, 43, 44, 169, 170, 171, 547, 548, 549, 550, 551, 552, 553, 561, 562, 563, 564] (by decide +kernel) (by decide +kernel)
set_option maxRecDepth 20000 in
theorem gL_law_X2_alike : GoodIn wsL_law (wsV RL 79 RX2 yX2_alike wsX2_alike) := goodIn_app (goodIn_of _ (by decide +kernel)) ggL_law_X2_alike
set_option maxRecDepth 20000 in
theorem ggL_law_X3_alike : GoodIn wsL_law wsX3_alike := goodIn_r _ [374, 57, 88, 89, 5, 90, 91, 92, 93, 355, 356, 357, 358, 340, 341, 342, 343, 59, 120, 121, 122, 123, 148, 149, 150, 151, 58, 554, 555, 556, 557, 558, 559, 560] (by decide +kernel) (by decide +kernel)
set_option maxRecDepth 20000 in
theorem gL_law_X3_alike : GoodIn wsL_law (wsV RL 82 RX3 yX3_alike wsX3_alike) := goodIn_app (goodIn_of _ (by decide +kernel)) ggL_law_X3_alike
set_option maxRecDepth 20000 in
theorem ggL_law_X2_carry : GoodIn wsL_law wsX2_carry := goodIn_r _ [378, 16, 20, 68, 69, 70, 2, 71, 13, 222, 223, 224, 18, 225, 28, 363, 364, 365, 366, 348, 349, 350, 333, 334, 335, 379, 380, 381, 75, 36, 37, 140, 141, 142, 143, 31, 42, 43, 44, 76, 77, 78, 79, 29, 30, 38, 39, 40, 41, 45, 46, 47, 48, 49, 50, 51, 52, 547, 548, 549, 550, 551, 552, 553, 561, 562, 563, 564] (by decide +kernel) (by decide +kernel)
set_option maxRecDepth 20000 in
theorem gL_law_X2_carry : GoodIn wsL_law (wsV RL 83 RX2 yX2_carry wsX2_carry) := goodIn_app (goodIn_of _ (by decide +kernel)) ggL_law_X2_carry
set_option maxRecDepth 20000 in
theorem ggL_law_X3_carry : GoodIn wsL_law wsX3_carry := goodIn_r _ [385, 57, 58, 88, 89, 5, 90, 91, 92, 93, 355, 356, 357, 358, 340, 341, 342, 343, 59, 94, 95, 96, 97, 386, 387, 388, 389, 148, 149, 150, 151, 248, 249, 250, 251, 554, 555, 556, 557, 558, 559, 560] (by decide +kernel) (by decide +kernel)
set_option maxRecDepth 20000 in
theorem gL_law_X3_carry : GoodIn wsL_law (wsV RL 86 RX3 yX3_carry wsX3_carry) := goodIn_app (goodIn_of _ (by decide +kernel)) ggL_law_X3_carry
set_option maxRecDepth 20000 in
theorem ggL_law_X2_ways : GoodIn wsL_law wsX2_ways := goodIn_r _ [393, 68, 69, 70, 2, 71, 13, 222, 223, 224, 18, 225, 28, 156, 157, 158, 159, 160, 161, 162, 163, 29, 164, 165, 166, 167, 168, 141, 142, 143, 31, 42, 43, 44, 394, 395, 396, 397, 23, 21, 210, 211, 212, 213, 398, 399, 400, 348, 349, 350, 333, 334, 335, 80, 81, 82, 83, 401, 402, 403, 404, 22, 140, 405, 406, 407, 408, 547, 548, 549, 550, 551, 552, 553, 561, 562, 563, 564] (by decide +kernel) (by decide +kernel)
set_option maxRecDepth 20000 in
theorem gL_law_X2_ways : GoodIn wsL_law (wsV RL 87 RX2 yX2_ways wsX2_ways) := goodIn_app (goodIn_of _ (by decide +kernel)) ggL_law_X2_ways
set_option maxRecDepth 20000 in
theorem ggL_law_X3_ways : GoodIn wsL_law wsX3_ways := goodIn_r _ [412, 57, 60, 61, 62, 88, 89, 5, 90, 91, 92, 93, 176, 177, 178, 179, 120, 121, 122, 123, 148, 149, 150, 151, 58, 413, 414, 415, 416, 417, 418, 419, 63, 554, 555, 556, 557, 558, 559, 560] (by decide +kernel) (by decide +kernel)
set_option maxRecDepth 20000 in
theorem gL_law_X3_ways : GoodIn wsL_law (wsV RL 90 RX3 yX3_ways wsX3_ways) := goodIn_app (goodIn_of _ (by decide +kernel)) ggL_law_X3_ways
set_option maxRecDepth 20000 in
theorem ggL_law_X2_on : GoodIn wsL_law wsX2_on := goodIn_r _ [423, 68, 69, 70, 2, 71, 13, 424, 425, 426, 427, 428, 429, 430, 431, 432, 433, 434, 81, 82, 18, 83, 29, 435, 436, 437, 438, 439, 440, 441, 223, 224, 225, 28, 442, 141, 142, 143, 31, 42, 43, 44, 443, 444, 445, 169, 170, 171, 547, 548, 549, 550, 551, 552, 553, 561, 562, 563, 564] (by decide +kernel) (by decide +kernel)
set_option maxRecDepth 20000 in
theorem gL_law_X2_on : GoodIn wsL_law (wsV RL 91 RX2 yX2_on wsX2_on) := goodIn_app (goodIn_of _ (by decide +kernel)) ggL_law_X2_on
