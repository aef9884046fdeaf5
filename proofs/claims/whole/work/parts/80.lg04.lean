set_option maxRecDepth 20000 in
theorem ggL_law_X3_ring : GoodIn wsL_law wsX3_ring := goodIn_r _ [359, 187, 188, 189, 2, 190, 19, 191, 192, 193, 18, 194, 42, 38, 195, 41, 196, 197, 198, 199, 40, 200, 201, 202, 203, 204, 205, 206, 207, 208, 209, 210, 211, 212, 213, 214, 215, 216, 217, 218, 360, 361, 362, 363, 364, 336, 337, 338, 232, 233, 234, 235, 365, 366, 367, 368, 281, 282, 283, 284, 273, 274, 275, 276, 277, 278, 279, 280, 565, 566, 567, 589, 590, 591, 592, 582, 583, 584, 585, 586, 587, 588] (by decide +kernel) (by decide +kernel)
set_option maxRecDepth 20000 in
theorem gL_law_X3_ring : GoodIn wsL_law (wsV RL 61 RX3 yX3_ring wsX3_ring) := goodIn_app (goodIn_of _ (by decide +kernel)) ggL_law_X3_ring
set_option maxRecDepth 20000 in
theorem ggL_law_X4_ring : GoodIn wsL_law wsX4_ring := goodIn_r _ [372, 343, 70, 344, 345, 346, 5, 347, 60, 62, 61, 348, 349, 350, 351, 88, 67, 298, 299, 300, 301, 244, 68, 119, 63, 302, 303, 304, 305, 69, 306, 307, 308, 309, 352, 353, 354, 355, 124, 125, 126, 568, 569, 570, 571, 572, 573, 574, 575, 576, 577, 578, 579, 580, 581] (by decide +kernel) (by decide +kernel)
set_option maxRecDepth 20000 in
theorem gL_law_X4_ring : GoodIn wsL_law (wsV RL 64 RX4 yX4_ring wsX4_ring) := goodIn_app (goodIn_of _ (by decide +kernel)) ggL_law_X4_ring
set_option maxRecDepth 20000 in
theorem ggL_law_X3_height : GoodIn wsL_law wsX3_height := goodIn_r _ [376, 15, 94, 377, 19, 314, 102, 103, 14, 104, 83, 187, 188, 189, 2, 190, 191, 192, 193, 18, 194, 42, 38, 195, 41, 196, 197, 198, 199, 40, 200, 201, 202, 203, 204, 205, 206, 207, 208, 209, 210, 211, 212, 213, 214, 215, 216, 217, 218, 378, 379, 380, 381, 228, 229, 230, 231, 232, 233, 234, 235, 382, 383, 384, 385, 386, 387, 388, 389, 565, 566, 567, 582, 583, 584, 585, 586, 587, 588, 589, 590, 591, 592] (by decide +kernel) (by decide +kernel)
set_option maxRecDepth 20000 in
theorem gL_law_X3_height : GoodIn wsL_law (wsV RL 65 RX3 yX3_height wsX3_height) := goodIn_app (goodIn_of _ (by decide +kernel)) ggL_law_X3_height
set_option maxRecDepth 20000 in
theorem ggL_law_X4_height : GoodIn wsL_law wsX4_height := goodIn_r _ [393, 117, 394, 120, 121, 122, 5, 123, 88, 124, 125, 126, 395, 396, 397, 398, 65, 247, 248, 249, 250, 244, 119, 60, 61, 251, 62, 63, 252, 399, 400, 401, 402, 257, 258, 259, 568, 569, 570, 571, 572, 573, 574, 575, 576, 577, 578, 579, 580, 581] (by decide +kernel) (by decide +kernel)
set_option maxRecDepth 20000 in
theorem gL_law_X4_height : GoodIn wsL_law (wsV RL 68 RX4 yX4_height wsX4_height) := goodIn_app (goodIn_of _ (by decide +kernel)) ggL_law_X4_height
set_option maxRecDepth 20000 in
theorem ggL_law_X3_lifted : GoodIn wsL_law wsX3_lifted := goodIn_r _ [406, 15, 94, 407, 377, 408, 19, 409, 410, 131, 132, 133, 14, 134, 112, 187, 188, 189, 2, 190, 191, 192, 193, 18, 194, 42, 38, 195, 41, 196, 197, 198, 199, 40, 200, 201, 202, 203, 204, 205, 206, 207, 208, 209, 210, 211, 212, 213, 214, 215, 216, 217, 218, 378, 379, 380, 381, 228, 229, 230, 231, 232, 233, 234, 235, 382, 383, 384, 385, 386, 387, 388, 389, 565, 566, 567, 582, 583, 584, 585, 586, 587, 588, 589, 590, 591, 592] (by decide +kernel) (by decide +kernel)
set_option maxRecDepth 20000 in
theorem gL_law_X3_lifted : GoodIn wsL_law (wsV RL 69 RX3 yX3_lifted wsX3_lifted) := goodIn_app (goodIn_of _ (by decide +kernel)) ggL_law_X3_lifted
set_option maxRecDepth 20000 in
theorem ggL_law_X4_lifted : GoodIn wsL_law wsX4_lifted := goodIn_r _ [414, 117, 63, 394, 62, 60, 61, 143, 144, 145, 5, 146, 119, 124, 125, 126, 395, 396, 397, 398, 88, 65, 247, 248, 249, 250, 244, 251, 252, 399, 400, 401, 402, 257, 258, 259, 568, 569, 570, 571, 572, 573, 574, 575, 576, 577, 578, 579, 580, 581] (by decide +kernel) (by decide +kernel)
set_option maxRecDepth 20000 in
theorem gL_law_X4_lifted : GoodIn wsL_law (wsV RL 72 RX4 yX4_lifted wsX4_lifted) := goodIn_app (goodIn_of _ (by decide +kernel)) ggL_law_X4_lifted
