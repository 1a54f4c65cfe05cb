set_option maxRecDepth 20000 in
theorem ggL_law_X7_height : GoodIn wsL_law wsX7_height := goodIn_r _ [550, 15, 19, 462, 551, 266, 267, 268, 14, 269, 33, 273, 274, 275, 2, 276, 277, 714, 715, 716, 717, 718, 719, 720, 721, 747, 748, 749, 750, 751, 752, 753, 754, 758, 759, 760, 761, 740, 741, 742, 743, 744, 745, 746] (by decide +kernel) (by decide +kernel)
set_option maxRecDepth 20000 in
theorem gL_law_X7_height : GoodIn wsL_law (wsV RL 76 RX7 yX7_height wsX7_height) := goodIn_app (goodIn_of _ (by decide +kernel)) ggL_law_X7_height
set_option maxRecDepth 20000 in
theorem ggL_law_X8_height : GoodIn wsL_law wsX8_height := goodIn_r _ [555, 254, 468, 469, 470, 5, 471, 246, 256, 255, 421, 422, 423, 424, 352, 353, 354, 355, 369, 370, 371, 372, 472, 473, 474, 475, 251, 252, 253, 442, 443, 444, 445, 476, 477, 478, 479, 480, 257, 481, 482, 483, 484, 485, 486, 487, 488, 250, 489, 490, 491, 492, 249, 493, 494, 495, 496, 497, 498, 499, 500, 258, 259, 501, 502, 503, 504, 505, 506, 507, 508, 509, 510, 511, 512, 513, 514, 515, 516, 517, 518, 519, 520, 521, 522, 523, 524, 525, 526, 527, 528, 305, 306, 307, 308, 309, 310, 311, 312, 313, 314, 315, 248, 722, 723, 724, 725, 726, 727, 728, 729, 730, 731, 732, 733, 734, 735, 736, 737, 738, 739] (by decide +kernel) (by decide +kernel)
set_option maxRecDepth 20000 in
theorem gL_law_X8_height : GoodIn wsL_law (wsV RL 79 RX8 yX8_height wsX8_height) := goodIn_app (goodIn_of _ (by decide +kernel)) ggL_law_X8_height
set_option maxRecDepth 20000 in
theorem ggL_law_X7_isHidden : GoodIn wsL_law wsX7_isHidden := goodIn_r _ [559, 15, 266, 267, 268, 14, 269, 33, 560, 561, 562, 2, 563, 19, 564, 273, 274, 275, 276, 277, 714, 715, 716, 717, 718, 719, 720, 721, 740, 741, 742, 743, 744, 745, 746, 747, 748, 749, 750, 751, 752, 753, 754] (by decide +kernel) (by decide +kernel)
set_option maxRecDepth 20000 in
theorem gL_law_X7_isHidden : GoodIn wsL_law (wsV RL 80 RX7 yX7_isHidden wsX7_isHidden) := goodIn_app (goodIn_of _ (by decide +kernel)) ggL_law_X7_isHidden
set_option maxRecDepth 20000 in
theorem ggL_law_X8_isHidden : GoodIn wsL_law wsX8_isHidden := goodIn_r _ [568, 255, 468, 469, 470, 5, 471, 246, 256, 421, 422, 423, 424, 352, 353, 354, 355, 369, 370, 371, 372, 472, 473, 474, 475, 251, 252, 253, 254, 442, 443, 444, 445, 476, 477, 478, 479, 480, 257, 481, 482, 483, 484, 485, 486, 487, 488, 250, 489, 490, 491, 492, 249, 493, 494, 495, 496, 497, 498, 499, 500, 258, 259, 501, 502, 503, 504, 505, 506, 507, 508, 509, 510, 511, 512, 513, 514, 515, 516, 517, 518, 519, 520, 521, 522, 523, 524, 525, 526, 527, 528, 305, 306, 307, 308, 309, 310, 311, 312, 313, 314, 315, 248, 722, 723, 724, 725, 726, 727, 728, 729, 730, 731, 732, 733, 734, 735, 736, 737, 738, 739] (by decide +kernel) (by decide +kernel)
set_option maxRecDepth 20000 in
theorem gL_law_X8_isHidden : GoodIn wsL_law (wsV RL 83 RX8 yX8_isHidden wsX8_isHidden) := goodIn_app (goodIn_of _ (by decide +kernel)) ggL_law_X8_isHidden
