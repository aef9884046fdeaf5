set_option maxRecDepth 20000 in
theorem ggL_law_X3_late : GoodIn wsL_law wsX3_late := goodIn_r _ [519, 15, 94, 377, 23, 314, 102, 103, 14, 104, 83, 428, 429, 430, 2, 431, 432, 433, 434, 22, 435, 55, 47, 436, 437, 438, 439, 440, 50, 441, 49, 48, 442, 443, 444, 445, 446, 447, 448, 449, 450, 451, 452, 453, 454, 455, 456, 457, 458, 459, 460, 461, 51, 462, 463, 464, 465, 466, 467, 468, 388, 469, 470, 471, 472, 473, 54, 474, 475, 476, 477, 53, 478, 479, 480, 481, 482, 207, 208, 209, 483, 520, 521, 522, 523, 565, 566, 567, 582, 583, 584, 585, 586, 587, 588, 593, 594, 595, 596, 597, 598, 599, 600] (by decide +kernel) (by decide +kernel)
set_option maxRecDepth 20000 in
theorem gL_law_X3_late : GoodIn wsL_law (wsV RL 85 RX3 yX3_late wsX3_late) := goodIn_app (goodIn_of _ (by decide +kernel)) ggL_law_X3_late
set_option maxRecDepth 20000 in
theorem ggL_law_X4_late : GoodIn wsL_law wsX4_late := goodIn_r _ [527, 117, 394, 120, 121, 122, 5, 123, 88, 124, 125, 126, 492, 493, 494, 495, 71, 252, 119, 60, 61, 251, 62, 63, 528, 529, 530, 531, 509, 510, 511, 512, 513, 514, 515, 257, 258, 259, 568, 569, 570, 571, 572, 573, 574, 575, 576, 577, 578, 579, 580, 581] (by decide +kernel) (by decide +kernel)
set_option maxRecDepth 20000 in
theorem gL_law_X4_late : GoodIn wsL_law (wsV RL 88 RX4 yX4_late wsX4_late) := goodIn_app (goodIn_of _ (by decide +kernel)) ggL_law_X4_late
set_option maxRecDepth 20000 in
theorem ggL_law_X3_whole : GoodIn wsL_law wsX3_whole := goodIn_r _ [535, 377, 23, 536, 428, 429, 430, 2, 431, 432, 433, 434, 22, 435, 55, 47, 436, 437, 438, 439, 440, 50, 441, 49, 48, 442, 443, 444, 445, 446, 447, 448, 449, 450, 451, 452, 453, 454, 455, 456, 457, 458, 459, 460, 461, 51, 462, 463, 464, 465, 466, 467, 468, 388, 469, 470, 471, 472, 473, 54, 474, 475, 476, 477, 53, 478, 479, 480, 481, 482, 207, 208, 209, 483, 565, 566, 567, 593, 594, 595, 596, 597, 598, 599, 600, 582, 583, 584, 585, 586, 587, 588] (by decide +kernel) (by decide +kernel)
set_option maxRecDepth 20000 in
theorem gL_law_X3_whole : GoodIn wsL_law (wsV RL 89 RX3 yX3_whole wsX3_whole) := goodIn_app (goodIn_of _ (by decide +kernel)) ggL_law_X3_whole
set_option maxRecDepth 20000 in
theorem ggL_law_X4_whole : GoodIn wsL_law wsX4_whole := goodIn_r _ [540, 394, 492, 493, 494, 5, 495, 88, 71, 252, 119, 60, 61, 251, 62, 63, 528, 529, 530, 531, 509, 510, 511, 512, 513, 514, 515, 257, 258, 259, 568, 569, 570, 571, 572, 573, 574, 575, 576, 577, 578, 579, 580, 581] (by decide +kernel) (by decide +kernel)
set_option maxRecDepth 20000 in
theorem gL_law_X4_whole : GoodIn wsL_law (wsV RL 92 RX4 yX4_whole wsX4_whole) := goodIn_app (goodIn_of _ (by decide +kernel)) ggL_law_X4_whole
set_option maxRecDepth 20000 in
theorem ggL_law_X3_critical : GoodIn wsL_law wsX3_critical := goodIn_r _ [544, 377, 23, 428, 429, 430, 2, 431, 432, 433, 434, 22, 435, 55, 47, 436, 437, 438, 439, 440, 50, 441, 49, 48, 442, 443, 444, 445, 446, 447, 448, 449, 450, 451, 452, 453, 454, 455, 456, 457, 458, 459, 460, 461, 51, 462, 463, 464, 465, 466, 467, 468, 388, 469, 470, 471, 472, 473, 54, 474, 475, 476, 477, 53, 478, 479, 480, 481, 482, 207, 208, 209, 483, 545, 546, 547, 548, 549, 550, 551, 552, 553, 554, 555, 556, 557, 558, 559, 560, 565, 566, 567, 593, 594, 595, 596, 597, 598, 599, 600, 582, 583, 584, 585, 586, 587, 588] (by decide +kernel) (by decide +kernel)
set_option maxRecDepth 20000 in
theorem gL_law_X3_critical : GoodIn wsL_law (wsV RL 93 RX3 yX3_critical wsX3_critical) := goodIn_app (goodIn_of _ (by decide +kernel)) ggL_law_X3_critical
set_option maxRecDepth 20000 in
theorem ggL_law_X4_critical : GoodIn wsL_law wsX4_critical := goodIn_r _ [564, 394, 63, 60, 251, 62, 61, 492, 493, 494, 5, 495, 88, 71, 252, 119, 528, 529, 530, 531, 509, 510, 511, 512, 568, 569, 570, 571, 572, 573, 574, 575, 576, 577, 578, 579, 580, 581] (by decide +kernel) (by decide +kernel)
set_option maxRecDepth 20000 in
theorem gL_law_X4_critical : GoodIn wsL_law (wsV RL 96 RX4 yX4_critical wsX4_critical) := goodIn_app (goodIn_of _ (by decide +kernel)) ggL_law_X4_critical
