set_option maxRecDepth 20000 in
theorem ggL_law_X3_on : GoodIn wsL_law wsX3_on := goodIn_r _ [449, 88, 89, 5, 90, 91, 92, 93, 450, 451, 452, 453, 120, 121, 122, 123, 57, 454, 455, 456, 457, 148, 149, 150, 151, 58, 554, 555, 556, 557, 558, 559, 560] (by decide +kernel) (by decide +kernel)
set_option maxRecDepth 20000 in
theorem gL_law_X3_on : GoodIn wsL_law (wsV RL 94 RX3 yX3_on wsX3_on) := goodIn_app (goodIn_of _ (by decide +kernel)) ggL_law_X3_on
set_option maxRecDepth 20000 in
theorem ggL_law_X2_join : GoodIn wsL_law wsX2_join := goodIn_r _ [461, 462, 463, 464, 465, 466, 467, 468, 68, 69, 70, 2, 71, 13, 424, 425, 426, 427, 428, 429, 430, 431, 432, 433, 434, 81, 82, 18, 83, 29, 469, 470, 471, 438, 439, 440, 441, 223, 224, 225, 28, 443, 444, 445, 472, 211, 212, 213, 168, 141, 142, 143, 31, 42, 43, 44, 442, 547, 548, 549, 550, 551, 552, 553, 561, 562, 563, 564] (by decide +kernel) (by decide +kernel)
set_option maxRecDepth 20000 in
theorem gL_law_X2_join : GoodIn wsL_law (wsV RL 95 RX2 yX2_join wsX2_join) := goodIn_app (goodIn_of _ (by decide +kernel)) ggL_law_X2_join
set_option maxRecDepth 20000 in
theorem ggL_law_X3_join : GoodIn wsL_law wsX3_join := goodIn_r _ [476, 88, 89, 5, 90, 91, 92, 93, 450, 451, 452, 453, 120, 121, 122, 123, 57, 477, 478, 479, 480, 454, 455, 456, 457, 148, 149, 150, 151, 58, 554, 555, 556, 557, 558, 559, 560] (by decide +kernel) (by decide +kernel)
set_option maxRecDepth 20000 in
theorem gL_law_X3_join : GoodIn wsL_law (wsV RL 98 RX3 yX3_join wsX3_join) := goodIn_app (goodIn_of _ (by decide +kernel)) ggL_law_X3_join
set_option maxRecDepth 20000 in
theorem ggL_law_X2_meet : GoodIn wsL_law wsX2_meet := goodIn_r _ [484, 462, 463, 464, 465, 466, 467, 468, 68, 69, 70, 2, 71, 13, 424, 425, 426, 427, 428, 429, 430, 431, 432, 433, 434, 81, 82, 18, 83, 29, 485, 486, 487, 438, 439, 440, 441, 223, 224, 225, 28, 443, 444, 445, 472, 211, 212, 213, 168, 141, 142, 143, 31, 42, 43, 44, 442, 547, 548, 549, 550, 551, 552, 553, 561, 562, 563, 564] (by decide +kernel) (by decide +kernel)
set_option maxRecDepth 20000 in
theorem gL_law_X2_meet : GoodIn wsL_law (wsV RL 99 RX2 yX2_meet wsX2_meet) := goodIn_app (goodIn_of _ (by decide +kernel)) ggL_law_X2_meet
set_option maxRecDepth 20000 in
theorem ggL_law_X3_meet : GoodIn wsL_law wsX3_meet := goodIn_r _ [491, 88, 89, 5, 90, 91, 92, 93, 450, 451, 452, 453, 120, 121, 122, 123, 57, 477, 478, 479, 480, 454, 455, 456, 457, 148, 149, 150, 151, 58, 554, 555, 556, 557, 558, 559, 560] (by decide +kernel) (by decide +kernel)
set_option maxRecDepth 20000 in
theorem gL_law_X3_meet : GoodIn wsL_law (wsV RL 102 RX3 yX3_meet wsX3_meet) := goodIn_app (goodIn_of _ (by decide +kernel)) ggL_law_X3_meet
set_option maxRecDepth 20000 in
theorem ggL_law_X2_bad : GoodIn wsL_law wsX2_bad := goodIn_r _ [495, 68, 69, 70, 2, 71, 13, 496, 497, 426, 498, 434, 81, 82, 18, 83, 29, 499, 165, 166, 167, 168, 141, 142, 143, 31, 42, 43, 44, 431, 432, 433, 547, 548, 549, 550, 551, 552, 553, 561, 562, 563, 564] (by decide +kernel) (by decide +kernel)
set_option maxRecDepth 20000 in
theorem gL_law_X2_bad : GoodIn wsL_law (wsV RL 103 RX2 yX2_bad wsX2_bad) := goodIn_app (goodIn_of _ (by decide +kernel)) ggL_law_X2_bad
set_option maxRecDepth 20000 in
theorem ggL_law_X3_bad : GoodIn wsL_law wsX3_bad := goodIn_r _ [503, 88, 89, 5, 90, 91, 92, 93, 120, 121, 122, 123, 57, 148, 149, 150, 151, 58, 554, 555, 556, 557, 558, 559, 560] (by decide +kernel) (by decide +kernel)
set_option maxRecDepth 20000 in
theorem gL_law_X3_bad : GoodIn wsL_law (wsV RL 106 RX3 yX3_bad wsX3_bad) := goodIn_app (goodIn_of _ (by decide +kernel)) ggL_law_X3_bad
set_option maxRecDepth 20000 in
theorem ggL_law_X2_rank : GoodIn wsL_law wsX2_rank := goodIn_r _ [507, 68, 69, 70, 2, 71, 13, 102, 103, 104, 18, 105, 29, 508, 509, 510, 511, 28, 168, 141, 142, 143, 31, 42, 43, 44, 512, 513, 514, 515, 516, 517, 518, 547, 548, 549, 550, 551, 552, 553, 561, 562, 563, 564] (by decide +kernel) (by decide +kernel)
set_option maxRecDepth 20000 in
theorem gL_law_X2_rank : GoodIn wsL_law (wsV RL 107 RX2 yX2_rank wsX2_rank) := goodIn_app (goodIn_of _ (by decide +kernel)) ggL_law_X2_rank
set_option maxRecDepth 20000 in
theorem ggL_law_X3_rank : GoodIn wsL_law wsX3_rank := goodIn_r _ [522, 88, 89, 5, 90, 91, 92, 93, 116, 117, 118, 119, 120, 121, 122, 123, 57, 523, 524, 525, 526, 148, 149, 150, 151, 58, 554, 555, 556, 557, 558, 559, 560] (by decide +kernel) (by decide +kernel)
set_option maxRecDepth 20000 in
theorem gL_law_X3_rank : GoodIn wsL_law (wsV RL 110 RX3 yX3_rank wsX3_rank) := goodIn_app (goodIn_of _ (by decide +kernel)) ggL_law_X3_rank
set_option maxRecDepth 20000 in
theorem ggL_law_X2_ranks : GoodIn wsL_law wsX2_ranks := goodIn_r _ [530, 68, 69, 70, 2, 71, 13, 80, 81, 82, 18, 83, 29, 508, 509, 510, 511, 28, 168, 141, 142, 143, 31, 42, 43, 44, 512, 513, 514, 515, 516, 517, 518, 547, 548, 549, 550, 551, 552, 553, 561, 562, 563, 564] (by decide +kernel) (by decide +kernel)
set_option maxRecDepth 20000 in
theorem gL_law_X2_ranks : GoodIn wsL_law (wsV RL 111 RX2 yX2_ranks wsX2_ranks) := goodIn_app (goodIn_of _ (by decide +kernel)) ggL_law_X2_ranks
set_option maxRecDepth 20000 in
theorem ggL_law_X3_ranks : GoodIn wsL_law wsX3_ranks := goodIn_r _ [534, 88, 89, 5, 90, 91, 92, 93, 120, 121, 122, 123, 57, 523, 524, 525, 526, 148, 149, 150, 151, 58, 554, 555, 556, 557, 558, 559, 560] (by decide +kernel) (by decide +kernel)
set_option maxRecDepth 20000 in
theorem gL_law_X3_ranks : GoodIn wsL_law (wsV RL 114 RX3 yX3_ranks wsX3_ranks) := goodIn_app (goodIn_of _ (by decide +kernel)) ggL_law_X3_ranks
set_option maxRecDepth 20000 in
theorem ggL_law_X2_cubes : GoodIn wsL_law wsX2_cubes := goodIn_r _ [538, 19, 20, 539, 540, 541, 2, 542, 75, 36, 37, 76, 77, 78, 18, 79, 28, 29, 30, 38, 39, 40, 41, 31, 42, 43, 44, 45, 46, 47, 48, 49, 50, 51, 52, 156, 157, 158, 159, 160, 161, 162, 163, 164, 165, 166, 167, 168, 141, 142, 143, 547, 548, 549, 550, 551, 552, 553, 561, 562, 563, 564] (by decide +kernel) (by decide +kernel)
set_option maxRecDepth 20000 in
theorem gL_law_X2_cubes : GoodIn wsL_law (wsV RL 115 RX2 yX2_cubes wsX2_cubes) := goodIn_app (goodIn_of _ (by decide +kernel)) ggL_law_X2_cubes
set_option maxRecDepth 20000 in
theorem ggL_law_X3_cubes : GoodIn wsL_law wsX3_cubes := goodIn_r _ [546, 58, 91, 92, 5, 93, 94, 95, 96, 97, 57, 176, 177, 178, 179, 120, 121, 122, 123, 148, 149, 150, 151, 554, 555, 556, 557, 558, 559, 560] (by decide +kernel) (by decide +kernel)
set_option maxRecDepth 20000 in
theorem gL_law_X3_cubes : GoodIn wsL_law (wsV RL 118 RX3 yX3_cubes wsX3_cubes) := goodIn_app (goodIn_of _ (by decide +kernel)) ggL_law_X3_cubes
