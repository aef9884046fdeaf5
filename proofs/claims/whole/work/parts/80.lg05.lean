set_option maxRecDepth 20000 in
theorem ggL_law_X3_spare : GoodIn wsL_law wsX3_spare := goodIn_r _ [418, 15, 94, 407, 377, 19, 410, 409, 419, 408, 131, 132, 133, 14, 134, 112, 187, 188, 189, 2, 190, 191, 192, 193, 18, 194, 42, 38, 195, 41, 196, 197, 198, 199, 40, 200, 201, 202, 203, 204, 205, 206, 207, 208, 209, 210, 211, 212, 213, 214, 215, 216, 217, 218, 378, 379, 380, 381, 228, 229, 230, 231, 232, 233, 234, 235, 293, 565, 566, 567, 582, 583, 584, 585, 586, 587, 588, 589, 590, 591, 592] (by decide +kernel) (by decide +kernel)
set_option maxRecDepth 20000 in
theorem gL_law_X3_spare : GoodIn wsL_law (wsV RL 73 RX3 yX3_spare wsX3_spare) := goodIn_app (goodIn_of _ (by decide +kernel)) ggL_law_X3_spare
set_option maxRecDepth 20000 in
theorem ggL_law_X4_spare : GoodIn wsL_law wsX4_spare := goodIn_r _ [423, 117, 63, 394, 65, 61, 60, 244, 245, 62, 143, 144, 145, 5, 146, 119, 124, 125, 126, 395, 396, 397, 398, 88, 247, 248, 249, 250, 251, 252, 257, 258, 259, 568, 569, 570, 571, 572, 573, 574, 575, 576, 577, 578, 579, 580, 581] (by decide +kernel) (by decide +kernel)
set_option maxRecDepth 20000 in
theorem gL_law_X4_spare : GoodIn wsL_law (wsV RL 76 RX4 yX4_spare wsX4_spare) := goodIn_app (goodIn_of _ (by decide +kernel)) ggL_law_X4_spare
set_option maxRecDepth 20000 in
theorem ggL_law_X3_order : GoodIn wsL_law wsX3_order := goodIn_r _ [427, 377, 23, 428, 429, 430, 2, 431, 432, 433, 434, 22, 435, 55, 47, 436, 437, 438, 439, 440, 50, 441, 49, 48, 442, 443, 444, 445, 446, 447, 448, 449, 450, 451, 452, 453, 454, 455, 456, 457, 458, 459, 460, 461, 51, 462, 463, 464, 465, 466, 467, 468, 388, 469, 470, 471, 472, 473, 54, 474, 475, 476, 477, 53, 478, 479, 480, 481, 482, 207, 208, 209, 483, 484, 485, 486, 487, 565, 566, 567, 593, 594, 595, 596, 597, 598, 599, 600, 582, 583, 584, 585, 586, 587, 588] (by decide +kernel) (by decide +kernel)
set_option maxRecDepth 20000 in
theorem gL_law_X3_order : GoodIn wsL_law (wsV RL 77 RX3 yX3_order wsX3_order) := goodIn_app (goodIn_of _ (by decide +kernel)) ggL_law_X3_order
set_option maxRecDepth 20000 in
theorem ggL_law_X4_order : GoodIn wsL_law wsX4_order := goodIn_r _ [491, 394, 88, 492, 493, 494, 5, 495, 71, 252, 119, 60, 61, 251, 62, 63, 496, 497, 498, 499, 568, 569, 570, 571, 572, 573, 574, 575, 576, 577, 578, 579, 580, 581] (by decide +kernel) (by decide +kernel)
set_option maxRecDepth 20000 in
theorem gL_law_X4_order : GoodIn wsL_law (wsV RL 80 RX4 yX4_order wsX4_order) := goodIn_app (goodIn_of _ (by decide +kernel)) ggL_law_X4_order
set_option maxRecDepth 20000 in
theorem ggL_law_X3_far : GoodIn wsL_law wsX3_far := goodIn_r _ [503, 15, 94, 377, 23, 504, 314, 102, 103, 14, 104, 83, 428, 429, 430, 2, 431, 432, 433, 434, 22, 435, 55, 47, 436, 437, 438, 439, 440, 50, 441, 49, 48, 442, 443, 444, 445, 446, 447, 448, 449, 450, 451, 452, 453, 454, 455, 456, 457, 458, 459, 460, 461, 51, 462, 463, 464, 465, 466, 467, 468, 388, 469, 470, 471, 472, 473, 54, 474, 475, 476, 477, 53, 478, 479, 480, 481, 482, 207, 208, 209, 483, 565, 566, 567, 593, 594, 595, 596, 597, 598, 599, 600, 582, 583, 584, 585, 586, 587, 588] (by decide +kernel) (by decide +kernel)
set_option maxRecDepth 20000 in
theorem gL_law_X3_far : GoodIn wsL_law (wsV RL 81 RX3 yX3_far wsX3_far) := goodIn_app (goodIn_of _ (by decide +kernel)) ggL_law_X3_far
set_option maxRecDepth 20000 in
theorem ggL_law_X4_far : GoodIn wsL_law wsX4_far := goodIn_r _ [508, 117, 394, 120, 121, 122, 5, 123, 88, 124, 125, 126, 492, 493, 494, 495, 71, 252, 119, 60, 61, 251, 62, 63, 509, 510, 511, 512, 513, 514, 515, 257, 258, 259, 568, 569, 570, 571, 572, 573, 574, 575, 576, 577, 578, 579, 580, 581] (by decide +kernel) (by decide +kernel)
set_option maxRecDepth 20000 in
theorem gL_law_X4_far : GoodIn wsL_law (wsV RL 84 RX4 yX4_far wsX4_far) := goodIn_app (goodIn_of _ (by decide +kernel)) ggL_law_X4_far
