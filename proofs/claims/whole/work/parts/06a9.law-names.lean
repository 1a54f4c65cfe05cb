set_option maxRecDepth 20000 in
theorem ggL_law_X7_nodeAt : GoodIn wsL_law wsX7_nodeAt := goodIn_r _ [572, 15, 377, 378, 265, 19, 462, 437, 273, 274, 275, 2, 276, 277, 573, 574, 575, 47, 576, 59, 61, 60, 62, 714, 715, 716, 717, 718, 719, 720, 721, 740, 741, 742, 743, 744, 745, 746, 747, 748, 749, 750, 751, 752, 753, 754, 758, 759, 760, 761] (by decide +kernel) (by decide +kernel)
set_option maxRecDepth 20000 in
theorem gL_law_X7_nodeAt : GoodIn wsL_law (wsV RL 84 RX7 yX7_nodeAt wsX7_nodeAt) := goodIn_app (goodIn_of _ (by decide +kernel)) ggL_law_X7_nodeAt
set_option maxRecDepth 20000 in
theorem ggL_law_X8_nodeAt : GoodIn wsL_law wsX8_nodeAt := goodIn_r _ [580, 246, 251, 253, 252, 254, 309, 310, 5, 311, 312, 313, 314, 315, 248, 468, 469, 470, 471, 256, 255, 421, 422, 423, 424, 352, 353, 354, 355, 369, 370, 371, 372, 472, 473, 474, 475, 442, 443, 444, 445, 476, 477, 478, 479, 480, 257, 481, 482, 483, 484, 485, 486, 487, 488, 250, 489, 490, 491, 492, 249, 493, 494, 495, 496, 497, 498, 499, 500, 258, 259, 501, 502, 503, 504, 505, 506, 507, 508, 509, 510, 511, 512, 513, 514, 515, 516, 517, 518, 519, 520, 521, 522, 523, 524, 525, 526, 527, 528, 722, 723, 724, 725, 726, 727, 728, 729, 730, 731, 732, 733, 734, 735, 736, 737, 738, 739] (by decide +kernel) (by decide +kernel)
set_option maxRecDepth 20000 in
theorem gL_law_X8_nodeAt : GoodIn wsL_law (wsV RL 87 RX8 yX8_nodeAt wsX8_nodeAt) := goodIn_app (goodIn_of _ (by decide +kernel)) ggL_law_X8_nodeAt
set_option maxRecDepth 20000 in
theorem ggL_law_X7_leafPixels : GoodIn wsL_law wsX7_leafPixels := goodIn_r _ [584, 15, 265, 19, 462, 338, 113, 114, 18, 115, 51, 585, 586, 587, 47, 588, 61, 62, 714, 715, 716, 717, 718, 719, 720, 721, 740, 741, 742, 743, 744, 745, 746, 747, 748, 749, 750, 751, 752, 753, 754, 758, 759, 760, 761] (by decide +kernel) (by decide +kernel)
set_option maxRecDepth 20000 in
theorem gL_law_X7_leafPixels : GoodIn wsL_law (wsV RL 88 RX7 yX7_leafPixels wsX7_leafPixels) := goodIn_app (goodIn_of _ (by decide +kernel)) ggL_law_X7_leafPixels
set_option maxRecDepth 20000 in
theorem ggL_law_X8_leafPixels : GoodIn wsL_law wsX8_leafPixels := goodIn_r _ [592, 468, 469, 470, 5, 471, 246, 256, 255, 421, 422, 423, 424, 352, 353, 354, 355, 369, 370, 371, 372, 472, 473, 474, 475, 251, 252, 253, 254, 442, 443, 444, 445, 476, 477, 478, 479, 480, 257, 481, 482, 483, 484, 485, 486, 487, 488, 250, 489, 490, 491, 492, 249, 493, 494, 495, 496, 497, 498, 499, 500, 258, 259, 501, 502, 503, 504, 505, 506, 507, 508, 509, 510, 511, 512, 513, 514, 515, 516, 517, 518, 519, 520, 521, 522, 523, 524, 525, 526, 527, 528, 593, 594, 595, 596, 722, 723, 724, 725, 726, 727, 728, 729, 730, 731, 732, 733, 734, 735, 736, 737, 738, 739] (by decide +kernel) (by decide +kernel)
set_option maxRecDepth 20000 in
theorem gL_law_X8_leafPixels : GoodIn wsL_law (wsV RL 91 RX8 yX8_leafPixels wsX8_leafPixels) := goodIn_app (goodIn_of _ (by decide +kernel)) ggL_law_X8_leafPixels
