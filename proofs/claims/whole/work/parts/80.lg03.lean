set_option maxRecDepth 20000 in
theorem ggL_law_X3_within : GoodIn wsL_law wsX3_within := goodIn_r _ [292, 15, 94, 95, 97, 98, 99, 14, 100, 101, 102, 103, 104, 83, 105, 106, 2, 107, 187, 188, 189, 190, 19, 191, 192, 193, 18, 194, 42, 38, 195, 41, 196, 197, 198, 199, 40, 200, 201, 202, 203, 204, 205, 206, 207, 208, 209, 210, 211, 212, 213, 214, 215, 216, 217, 218, 293, 233, 234, 235, 565, 566, 567, 582, 583, 584, 585, 586, 587, 588, 589, 590, 591, 592] (by decide +kernel) (by decide +kernel)
set_option maxRecDepth 20000 in
theorem gL_law_X3_within : GoodIn wsL_law (wsV RL 49 RX3 yX3_within wsX3_within) := goodIn_app (goodIn_of _ (by decide +kernel)) ggL_law_X3_within
set_option maxRecDepth 20000 in
theorem ggL_law_X4_within : GoodIn wsL_law wsX4_within := goodIn_r _ [297, 117, 118, 67, 244, 245, 120, 121, 122, 5, 123, 88, 124, 125, 126, 298, 299, 300, 301, 68, 119, 60, 61, 63, 62, 302, 303, 304, 305, 69, 306, 307, 308, 309, 568, 569, 570, 571, 572, 573, 574, 575, 576, 577, 578, 579, 580, 581] (by decide +kernel) (by decide +kernel)
set_option maxRecDepth 20000 in
theorem gL_law_X4_within : GoodIn wsL_law (wsV RL 52 RX4 yX4_within wsX4_within) := goodIn_app (goodIn_of _ (by decide +kernel)) ggL_law_X4_within
set_option maxRecDepth 20000 in
theorem ggL_law_X3_rounds : GoodIn wsL_law wsX3_rounds := goodIn_r _ [313, 15, 94, 314, 102, 103, 14, 104, 83, 187, 188, 189, 2, 190, 19, 191, 192, 193, 18, 194, 42, 38, 195, 41, 196, 197, 198, 199, 40, 200, 201, 202, 203, 204, 205, 206, 207, 208, 209, 210, 211, 212, 213, 214, 215, 216, 217, 218, 315, 316, 317, 318, 319, 320, 321, 322, 232, 233, 234, 235, 565, 566, 567, 582, 583, 584, 585, 586, 587, 588, 589, 590, 591, 592] (by decide +kernel) (by decide +kernel)
set_option maxRecDepth 20000 in
theorem gL_law_X3_rounds : GoodIn wsL_law (wsV RL 53 RX3 yX3_rounds wsX3_rounds) := goodIn_app (goodIn_of _ (by decide +kernel)) ggL_law_X3_rounds
set_option maxRecDepth 20000 in
theorem ggL_law_X4_rounds : GoodIn wsL_law wsX4_rounds := goodIn_r _ [326, 117, 88, 65, 244, 120, 121, 122, 5, 123, 124, 125, 126, 247, 248, 249, 250, 119, 60, 61, 251, 62, 63, 252, 327, 328, 329, 330, 67, 298, 299, 300, 301, 68, 302, 303, 304, 305, 69, 306, 307, 308, 309, 257, 258, 259, 568, 569, 570, 571, 572, 573, 574, 575, 576, 577, 578, 579, 580, 581] (by decide +kernel) (by decide +kernel)
set_option maxRecDepth 20000 in
theorem gL_law_X4_rounds : GoodIn wsL_law (wsV RL 56 RX4 yX4_rounds wsX4_rounds) := goodIn_app (goodIn_of _ (by decide +kernel)) ggL_law_X4_rounds
set_option maxRecDepth 20000 in
theorem ggL_law_X3_falling : GoodIn wsL_law wsX3_falling := goodIn_r _ [334, 187, 188, 189, 2, 190, 19, 191, 192, 193, 18, 194, 42, 38, 195, 41, 196, 197, 198, 199, 40, 200, 201, 202, 203, 204, 205, 206, 207, 208, 209, 210, 211, 212, 213, 214, 215, 216, 217, 218, 335, 336, 337, 338, 232, 233, 234, 235, 565, 566, 567, 589, 590, 591, 592, 582, 583, 584, 585, 586, 587, 588] (by decide +kernel) (by decide +kernel)
set_option maxRecDepth 20000 in
theorem gL_law_X3_falling : GoodIn wsL_law (wsV RL 57 RX3 yX3_falling wsX3_falling) := goodIn_app (goodIn_of _ (by decide +kernel)) ggL_law_X3_falling
set_option maxRecDepth 20000 in
theorem ggL_law_X4_falling : GoodIn wsL_law wsX4_falling := goodIn_r _ [342, 343, 344, 345, 346, 5, 347, 70, 60, 62, 61, 348, 349, 350, 351, 88, 67, 298, 299, 300, 301, 244, 68, 119, 63, 302, 303, 304, 305, 69, 306, 307, 308, 309, 352, 353, 354, 355, 568, 569, 570, 571, 572, 573, 574, 575, 576, 577, 578, 579, 580, 581] (by decide +kernel) (by decide +kernel)
set_option maxRecDepth 20000 in
theorem gL_law_X4_falling : GoodIn wsL_law (wsV RL 60 RX4 yX4_falling wsX4_falling) := goodIn_app (goodIn_of _ (by decide +kernel)) ggL_law_X4_falling
