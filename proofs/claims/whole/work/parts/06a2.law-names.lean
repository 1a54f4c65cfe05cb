set_option maxRecDepth 100000 in
theorem ggL_law_X7_x : GoodIn wsL_law wsX7_x := goodIn_r _ [461, 15, 19, 462, 463, 266, 267, 268, 14, 269, 33, 273, 274, 275, 2, 276, 277, 714, 715, 716, 717, 718, 719, 720, 721, 747, 748, 749, 750, 751, 752, 753, 754, 758, 759, 760, 761, 740, 741, 742, 743, 744, 745, 746] rfl (by decide +kernel)
set_option maxRecDepth 100000 in
theorem gL_law_X7_x : GoodIn wsL_law (wsV RL 64 RX7 yX7_x wsX7_x) := goodIn_app (goodIn_of _ (by decide +kernel)) ggL_law_X7_x
set_option maxRecDepth 100000 in
theorem ggL_law_X8_x : GoodIn wsL_law wsX8_x := goodIn_r _ [467, 251, 468, 469, 470, 5, 471, 246, 256, 255, 421, 422, 423, 424, 352, 353, 354, 355, 369, 370, 371, 372, 472, 473, 474, 475, 252, 253, 254, 442, 443, 444, 445, 476, 477, 478, 479, 480, 257, 481, 482, 483, 484, 485, 486, 487, 488, 250, 489, 490, 491, 492, 249, 493, 494, 495, 496, 497, 498, 499, 500, 258, 259, 501, 502, 503, 504, 505, 506, 507, 508, 509, 510, 511, 512, 513, 514, 515, 516, 517, 518, 519, 520, 521, 522, 523, 524, 525, 526, 527, 528, 305, 306, 307, 308, 309, 310, 311, 312, 313, 314, 315, 248, 722, 723, 724, 725, 726, 727, 728, 729, 730, 731, 732, 733, 734, 735, 736, 737, 738, 739] rfl (by decide +kernel)
set_option maxRecDepth 100000 in
theorem gL_law_X8_x : GoodIn wsL_law (wsV RL 67 RX8 yX8_x wsX8_x) := goodIn_app (goodIn_of _ (by decide +kernel)) ggL_law_X8_x
set_option maxRecDepth 100000 in
theorem ggL_law_X7_y : GoodIn wsL_law wsX7_y := goodIn_r _ [532, 15, 19, 462, 533, 266, 267, 268, 14, 269, 33, 273, 274, 275, 2, 276, 277, 714, 715, 716, 717, 718, 719, 720, 721, 747, 748, 749, 750, 751, 752, 753, 754, 758, 759, 760, 761, 740, 741, 742, 743, 744, 745, 746] rfl (by decide +kernel)
set_option maxRecDepth 100000 in
theorem gL_law_X7_y : GoodIn wsL_law (wsV RL 68 RX7 yX7_y wsX7_y) := goodIn_app (goodIn_of _ (by decide +kernel)) ggL_law_X7_y
set_option maxRecDepth 100000 in
theorem ggL_law_X8_y : GoodIn wsL_law wsX8_y := goodIn_r _ [537, 252, 468, 469, 470, 5, 471, 246, 256, 255, 421, 422, 423, 424, 352, 353, 354, 355, 369, 370, 371, 372, 472, 473, 474, 475, 251, 253, 254, 442, 443, 444, 445, 476, 477, 478, 479, 480, 257, 481, 482, 483, 484, 485, 486, 487, 488, 250, 489, 490, 491, 492, 249, 493, 494, 495, 496, 497, 498, 499, 500, 258, 259, 501, 502, 503, 504, 505, 506, 507, 508, 509, 510, 511, 512, 513, 514, 515, 516, 517, 518, 519, 520, 521, 522, 523, 524, 525, 526, 527, 528, 305, 306, 307, 308, 309, 310, 311, 312, 313, 314, 315, 248, 722, 723, 724, 725, 726, 727, 728, 729, 730, 731, 732, 733, 734, 735, 736, 737, 738, 739] rfl (by decide +kernel)
set_option maxRecDepth 100000 in
theorem gL_law_X8_y : GoodIn wsL_law (wsV RL 71 RX8 yX8_y wsX8_y) := goodIn_app (goodIn_of _ (by decide +kernel)) ggL_law_X8_y
set_option maxRecDepth 100000 in
theorem ggL_law_X7_width : GoodIn wsL_law wsX7_width := goodIn_r _ [541, 15, 19, 462, 542, 266, 267, 268, 14, 269, 33, 273, 274, 275, 2, 276, 277, 714, 715, 716, 717, 718, 719, 720, 721, 747, 748, 749, 750, 751, 752, 753, 754, 758, 759, 760, 761, 740, 741, 742, 743, 744, 745, 746] rfl (by decide +kernel)
set_option maxRecDepth 100000 in
theorem gL_law_X7_width : GoodIn wsL_law (wsV RL 72 RX7 yX7_width wsX7_width) := goodIn_app (goodIn_of _ (by decide +kernel)) ggL_law_X7_width
set_option maxRecDepth 100000 in
theorem ggL_law_X8_width : GoodIn wsL_law wsX8_width := goodIn_r _ [546, 253, 468, 469, 470, 5, 471, 246, 256, 255, 421, 422, 423, 424, 352, 353, 354, 355, 369, 370, 371, 372, 472, 473, 474, 475, 251, 252, 254, 442, 443, 444, 445, 476, 477, 478, 479, 480, 257, 481, 482, 483, 484, 485, 486, 487, 488, 250, 489, 490, 491, 492, 249, 493, 494, 495, 496, 497, 498, 499, 500, 258, 259, 501, 502, 503, 504, 505, 506, 507, 508, 509, 510, 511, 512, 513, 514, 515, 516, 517, 518, 519, 520, 521, 522, 523, 524, 525, 526, 527, 528, 305, 306, 307, 308, 309, 310, 311, 312, 313, 314, 315, 248, 722, 723, 724, 725, 726, 727, 728, 729, 730, 731, 732, 733, 734, 735, 736, 737, 738, 739] rfl (by decide +kernel)
set_option maxRecDepth 100000 in
theorem gL_law_X8_width : GoodIn wsL_law (wsV RL 75 RX8 yX8_width wsX8_width) := goodIn_app (goodIn_of _ (by decide +kernel)) ggL_law_X8_width
set_option maxRecDepth 100000 in
theorem ggL_law_X7_height : GoodIn wsL_law wsX7_height := goodIn_r _ [550, 15, 19, 462, 551, 266, 267, 268, 14, 269, 33, 273, 274, 275, 2, 276, 277, 714, 715, 716, 717, 718, 719, 720, 721, 747, 748, 749, 750, 751, 752, 753, 754, 758, 759, 760, 761, 740, 741, 742, 743, 744, 745, 746] rfl (by decide +kernel)
set_option maxRecDepth 100000 in
theorem gL_law_X7_height : GoodIn wsL_law (wsV RL 76 RX7 yX7_height wsX7_height) := goodIn_app (goodIn_of _ (by decide +kernel)) ggL_law_X7_height
set_option maxRecDepth 100000 in
theorem ggL_law_X8_height : GoodIn wsL_law wsX8_height := goodIn_r _ [555, 254, 468, 469, 470, 5, 471, 246, 256, 255, 421, 422, 423, 424, 352, 353, 354, 355, 369, 370, 371, 372, 472, 473, 474, 475, 251, 252, 253, 442, 443, 444, 445, 476, 477, 478, 479, 480, 257, 481, 482, 483, 484, 485, 486, 487, 488, 250, 489, 490, 491, 492, 249, 493, 494, 495, 496, 497, 498, 499, 500, 258, 259, 501, 502, 503, 504, 505, 506, 507, 508, 509, 510, 511, 512, 513, 514, 515, 516, 517, 518, 519, 520, 521, 522, 523, 524, 525, 526, 527, 528, 305, 306, 307, 308, 309, 310, 311, 312, 313, 314, 315, 248, 722, 723, 724, 725, 726, 727, 728, 729, 730, 731, 732, 733, 734, 735, 736, 737, 738, 739] rfl (by decide +kernel)
set_option maxRecDepth 100000 in
theorem gL_law_X8_height : GoodIn wsL_law (wsV RL 79 RX8 yX8_height wsX8_height) := goodIn_app (goodIn_of _ (by decide +kernel)) ggL_law_X8_height
set_option maxRecDepth 100000 in
theorem ggL_law_X7_isHidden : GoodIn wsL_law wsX7_isHidden := goodIn_r _ [559, 15, 266, 267, 268, 14, 269, 33, 560, 561, 562, 2, 563, 19, 564, 273, 274, 275, 276, 277, 714, 715, 716, 717, 718, 719, 720, 721, 740, 741, 742, 743, 744, 745, 746, 747, 748, 749, 750, 751, 752, 753, 754] rfl (by decide +kernel)
set_option maxRecDepth 100000 in
theorem gL_law_X7_isHidden : GoodIn wsL_law (wsV RL 80 RX7 yX7_isHidden wsX7_isHidden) := goodIn_app (goodIn_of _ (by decide +kernel)) ggL_law_X7_isHidden
set_option maxRecDepth 100000 in
theorem ggL_law_X8_isHidden : GoodIn wsL_law wsX8_isHidden := goodIn_r _ [568, 255, 468, 469, 470, 5, 471, 246, 256, 421, 422, 423, 424, 352, 353, 354, 355, 369, 370, 371, 372, 472, 473, 474, 475, 251, 252, 253, 254, 442, 443, 444, 445, 476, 477, 478, 479, 480, 257, 481, 482, 483, 484, 485, 486, 487, 488, 250, 489, 490, 491, 492, 249, 493, 494, 495, 496, 497, 498, 499, 500, 258, 259, 501, 502, 503, 504, 505, 506, 507, 508, 509, 510, 511, 512, 513, 514, 515, 516, 517, 518, 519, 520, 521, 522, 523, 524, 525, 526, 527, 528, 305, 306, 307, 308, 309, 310, 311, 312, 313, 314, 315, 248, 722, 723, 724, 725, 726, 727, 728, 729, 730, 731, 732, 733, 734, 735, 736, 737, 738, 739] rfl (by decide +kernel)
set_option maxRecDepth 100000 in
theorem gL_law_X8_isHidden : GoodIn wsL_law (wsV RL 83 RX8 yX8_isHidden wsX8_isHidden) := goodIn_app (goodIn_of _ (by decide +kernel)) ggL_law_X8_isHidden
set_option maxRecDepth 100000 in
theorem ggL_law_X7_nodeAt : GoodIn wsL_law wsX7_nodeAt := goodIn_r _ [572, 15, 377, 378, 265, 19, 462, 437, 273, 274, 275, 2, 276, 277, 573, 574, 575, 47, 576, 59, 61, 60, 62, 714, 715, 716, 717, 718, 719, 720, 721, 740, 741, 742, 743, 744, 745, 746, 747, 748, 749, 750, 751, 752, 753, 754, 758, 759, 760, 761] rfl (by decide +kernel)
set_option maxRecDepth 100000 in
theorem gL_law_X7_nodeAt : GoodIn wsL_law (wsV RL 84 RX7 yX7_nodeAt wsX7_nodeAt) := goodIn_app (goodIn_of _ (by decide +kernel)) ggL_law_X7_nodeAt
set_option maxRecDepth 100000 in
theorem ggL_law_X8_nodeAt : GoodIn wsL_law wsX8_nodeAt := goodIn_r _ [580, 246, 251, 253, 252, 254, 309, 310, 5, 311, 312, 313, 314, 315, 248, 468, 469, 470, 471, 256, 255, 421, 422, 423, 424, 352, 353, 354, 355, 369, 370, 371, 372, 472, 473, 474, 475, 442, 443, 444, 445, 476, 477, 478, 479, 480, 257, 481, 482, 483, 484, 485, 486, 487, 488, 250, 489, 490, 491, 492, 249, 493, 494, 495, 496, 497, 498, 499, 500, 258, 259, 501, 502, 503, 504, 505, 506, 507, 508, 509, 510, 511, 512, 513, 514, 515, 516, 517, 518, 519, 520, 521, 522, 523, 524, 525, 526, 527, 528, 722, 723, 724, 725, 726, 727, 728, 729, 730, 731, 732, 733, 734, 735, 736, 737, 738, 739] rfl (by decide +kernel)
set_option maxRecDepth 100000 in
theorem gL_law_X8_nodeAt : GoodIn wsL_law (wsV RL 87 RX8 yX8_nodeAt wsX8_nodeAt) := goodIn_app (goodIn_of _ (by decide +kernel)) ggL_law_X8_nodeAt
set_option maxRecDepth 100000 in
theorem ggL_law_X7_leafPixels : GoodIn wsL_law wsX7_leafPixels := goodIn_r _ [584, 15, 265, 19, 462, 338, 113, 114, 18, 115, 51, 585, 586, 587, 47, 588, 61, 62, 714, 715, 716, 717, 718, 719, 720, 721, 740, 741, 742, 743, 744, 745, 746, 747, 748, 749, 750, 751, 752, 753, 754, 758, 759, 760, 761] rfl (by decide +kernel)
set_option maxRecDepth 100000 in
theorem gL_law_X7_leafPixels : GoodIn wsL_law (wsV RL 88 RX7 yX7_leafPixels wsX7_leafPixels) := goodIn_app (goodIn_of _ (by decide +kernel)) ggL_law_X7_leafPixels
