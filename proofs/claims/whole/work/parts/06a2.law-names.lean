set_option maxRecDepth 100000 in
theorem ggL_law_X7_x : GoodIn wsL_law wsX7_x := goodIn_r _ [465, 15, 19, 466, 467, 269, 270, 271, 14, 272, 33, 276, 277, 278, 2, 279, 280, 718, 719, 720, 721, 722, 723, 724, 725, 751, 752, 753, 754, 755, 756, 757, 758, 762, 763, 764, 765, 744, 745, 746, 747, 748, 749, 750] rfl (by decide +kernel)
set_option maxRecDepth 100000 in
theorem gL_law_X7_x : GoodIn wsL_law (wsV RL 64 RX7 yX7_x wsX7_x) := goodIn_app (goodIn_of _ (by decide +kernel)) ggL_law_X7_x
set_option maxRecDepth 100000 in
theorem ggL_law_X8_x : GoodIn wsL_law wsX8_x := goodIn_r _ [471, 254, 472, 473, 474, 5, 475, 249, 259, 258, 425, 426, 427, 428, 356, 357, 358, 359, 373, 374, 375, 376, 476, 477, 478, 479, 255, 256, 257, 446, 447, 448, 449, 480, 481, 482, 483, 484, 260, 485, 486, 487, 488, 489, 490, 491, 492, 253, 493, 494, 495, 496, 252, 497, 498, 499, 500, 501, 502, 503, 504, 261, 262, 505, 506, 507, 508, 509, 510, 511, 512, 513, 514, 515, 516, 517, 518, 519, 520, 521, 522, 523, 524, 525, 526, 527, 528, 529, 530, 531, 532, 308, 309, 310, 311, 312, 313, 314, 315, 316, 317, 318, 251, 726, 727, 728, 729, 730, 731, 732, 733, 734, 735, 736, 737, 738, 739, 740, 741, 742, 743] rfl (by decide +kernel)
set_option maxRecDepth 100000 in
theorem gL_law_X8_x : GoodIn wsL_law (wsV RL 67 RX8 yX8_x wsX8_x) := goodIn_app (goodIn_of _ (by decide +kernel)) ggL_law_X8_x
set_option maxRecDepth 100000 in
theorem ggL_law_X7_y : GoodIn wsL_law wsX7_y := goodIn_r _ [536, 15, 19, 466, 537, 269, 270, 271, 14, 272, 33, 276, 277, 278, 2, 279, 280, 718, 719, 720, 721, 722, 723, 724, 725, 751, 752, 753, 754, 755, 756, 757, 758, 762, 763, 764, 765, 744, 745, 746, 747, 748, 749, 750] rfl (by decide +kernel)
set_option maxRecDepth 100000 in
theorem gL_law_X7_y : GoodIn wsL_law (wsV RL 68 RX7 yX7_y wsX7_y) := goodIn_app (goodIn_of _ (by decide +kernel)) ggL_law_X7_y
set_option maxRecDepth 100000 in
theorem ggL_law_X8_y : GoodIn wsL_law wsX8_y := goodIn_r _ [541, 255, 472, 473, 474, 5, 475, 249, 259, 258, 425, 426, 427, 428, 356, 357, 358, 359, 373, 374, 375, 376, 476, 477, 478, 479, 254, 256, 257, 446, 447, 448, 449, 480, 481, 482, 483, 484, 260, 485, 486, 487, 488, 489, 490, 491, 492, 253, 493, 494, 495, 496, 252, 497, 498, 499, 500, 501, 502, 503, 504, 261, 262, 505, 506, 507, 508, 509, 510, 511, 512, 513, 514, 515, 516, 517, 518, 519, 520, 521, 522, 523, 524, 525, 526, 527, 528, 529, 530, 531, 532, 308, 309, 310, 311, 312, 313, 314, 315, 316, 317, 318, 251, 726, 727, 728, 729, 730, 731, 732, 733, 734, 735, 736, 737, 738, 739, 740, 741, 742, 743] rfl (by decide +kernel)
set_option maxRecDepth 100000 in
theorem gL_law_X8_y : GoodIn wsL_law (wsV RL 71 RX8 yX8_y wsX8_y) := goodIn_app (goodIn_of _ (by decide +kernel)) ggL_law_X8_y
set_option maxRecDepth 100000 in
theorem ggL_law_X7_width : GoodIn wsL_law wsX7_width := goodIn_r _ [545, 15, 19, 466, 546, 269, 270, 271, 14, 272, 33, 276, 277, 278, 2, 279, 280, 718, 719, 720, 721, 722, 723, 724, 725, 751, 752, 753, 754, 755, 756, 757, 758, 762, 763, 764, 765, 744, 745, 746, 747, 748, 749, 750] rfl (by decide +kernel)
set_option maxRecDepth 100000 in
theorem gL_law_X7_width : GoodIn wsL_law (wsV RL 72 RX7 yX7_width wsX7_width) := goodIn_app (goodIn_of _ (by decide +kernel)) ggL_law_X7_width
set_option maxRecDepth 100000 in
theorem ggL_law_X8_width : GoodIn wsL_law wsX8_width := goodIn_r _ [550, 256, 472, 473, 474, 5, 475, 249, 259, 258, 425, 426, 427, 428, 356, 357, 358, 359, 373, 374, 375, 376, 476, 477, 478, 479, 254, 255, 257, 446, 447, 448, 449, 480, 481, 482, 483, 484, 260, 485, 486, 487, 488, 489, 490, 491, 492, 253, 493, 494, 495, 496, 252, 497, 498, 499, 500, 501, 502, 503, 504, 261, 262, 505, 506, 507, 508, 509, 510, 511, 512, 513, 514, 515, 516, 517, 518, 519, 520, 521, 522, 523, 524, 525, 526, 527, 528, 529, 530, 531, 532, 308, 309, 310, 311, 312, 313, 314, 315, 316, 317, 318, 251, 726, 727, 728, 729, 730, 731, 732, 733, 734, 735, 736, 737, 738, 739, 740, 741, 742, 743] rfl (by decide +kernel)
set_option maxRecDepth 100000 in
theorem gL_law_X8_width : GoodIn wsL_law (wsV RL 75 RX8 yX8_width wsX8_width) := goodIn_app (goodIn_of _ (by decide +kernel)) ggL_law_X8_width
set_option maxRecDepth 100000 in
theorem ggL_law_X7_height : GoodIn wsL_law wsX7_height := goodIn_r _ [554, 15, 19, 466, 555, 269, 270, 271, 14, 272, 33, 276, 277, 278, 2, 279, 280, 718, 719, 720, 721, 722, 723, 724, 725, 751, 752, 753, 754, 755, 756, 757, 758, 762, 763, 764, 765, 744, 745, 746, 747, 748, 749, 750] rfl (by decide +kernel)
set_option maxRecDepth 100000 in
theorem gL_law_X7_height : GoodIn wsL_law (wsV RL 76 RX7 yX7_height wsX7_height) := goodIn_app (goodIn_of _ (by decide +kernel)) ggL_law_X7_height
set_option maxRecDepth 100000 in
theorem ggL_law_X8_height : GoodIn wsL_law wsX8_height := goodIn_r _ [559, 257, 472, 473, 474, 5, 475, 249, 259, 258, 425, 426, 427, 428, 356, 357, 358, 359, 373, 374, 375, 376, 476, 477, 478, 479, 254, 255, 256, 446, 447, 448, 449, 480, 481, 482, 483, 484, 260, 485, 486, 487, 488, 489, 490, 491, 492, 253, 493, 494, 495, 496, 252, 497, 498, 499, 500, 501, 502, 503, 504, 261, 262, 505, 506, 507, 508, 509, 510, 511, 512, 513, 514, 515, 516, 517, 518, 519, 520, 521, 522, 523, 524, 525, 526, 527, 528, 529, 530, 531, 532, 308, 309, 310, 311, 312, 313, 314, 315, 316, 317, 318, 251, 726, 727, 728, 729, 730, 731, 732, 733, 734, 735, 736, 737, 738, 739, 740, 741, 742, 743] rfl (by decide +kernel)
set_option maxRecDepth 100000 in
theorem gL_law_X8_height : GoodIn wsL_law (wsV RL 79 RX8 yX8_height wsX8_height) := goodIn_app (goodIn_of _ (by decide +kernel)) ggL_law_X8_height
set_option maxRecDepth 100000 in
theorem ggL_law_X7_isHidden : GoodIn wsL_law wsX7_isHidden := goodIn_r _ [563, 15, 269, 270, 271, 14, 272, 33, 564, 565, 566, 2, 567, 19, 568, 276, 277, 278, 279, 280, 718, 719, 720, 721, 722, 723, 724, 725, 744, 745, 746, 747, 748, 749, 750, 751, 752, 753, 754, 755, 756, 757, 758] rfl (by decide +kernel)
set_option maxRecDepth 100000 in
theorem gL_law_X7_isHidden : GoodIn wsL_law (wsV RL 80 RX7 yX7_isHidden wsX7_isHidden) := goodIn_app (goodIn_of _ (by decide +kernel)) ggL_law_X7_isHidden
set_option maxRecDepth 100000 in
theorem ggL_law_X8_isHidden : GoodIn wsL_law wsX8_isHidden := goodIn_r _ [572, 258, 472, 473, 474, 5, 475, 249, 259, 425, 426, 427, 428, 356, 357, 358, 359, 373, 374, 375, 376, 476, 477, 478, 479, 254, 255, 256, 257, 446, 447, 448, 449, 480, 481, 482, 483, 484, 260, 485, 486, 487, 488, 489, 490, 491, 492, 253, 493, 494, 495, 496, 252, 497, 498, 499, 500, 501, 502, 503, 504, 261, 262, 505, 506, 507, 508, 509, 510, 511, 512, 513, 514, 515, 516, 517, 518, 519, 520, 521, 522, 523, 524, 525, 526, 527, 528, 529, 530, 531, 532, 308, 309, 310, 311, 312, 313, 314, 315, 316, 317, 318, 251, 726, 727, 728, 729, 730, 731, 732, 733, 734, 735, 736, 737, 738, 739, 740, 741, 742, 743] rfl (by decide +kernel)
set_option maxRecDepth 100000 in
theorem gL_law_X8_isHidden : GoodIn wsL_law (wsV RL 83 RX8 yX8_isHidden wsX8_isHidden) := goodIn_app (goodIn_of _ (by decide +kernel)) ggL_law_X8_isHidden
set_option maxRecDepth 100000 in
theorem ggL_law_X7_nodeAt : GoodIn wsL_law wsX7_nodeAt := goodIn_r _ [576, 15, 381, 382, 268, 19, 466, 441, 276, 277, 278, 2, 279, 280, 577, 578, 579, 47, 580, 59, 61, 60, 62, 718, 719, 720, 721, 722, 723, 724, 725, 744, 745, 746, 747, 748, 749, 750, 751, 752, 753, 754, 755, 756, 757, 758, 762, 763, 764, 765] rfl (by decide +kernel)
set_option maxRecDepth 100000 in
theorem gL_law_X7_nodeAt : GoodIn wsL_law (wsV RL 84 RX7 yX7_nodeAt wsX7_nodeAt) := goodIn_app (goodIn_of _ (by decide +kernel)) ggL_law_X7_nodeAt
set_option maxRecDepth 100000 in
theorem ggL_law_X8_nodeAt : GoodIn wsL_law wsX8_nodeAt := goodIn_r _ [584, 249, 254, 256, 255, 257, 312, 313, 5, 314, 315, 316, 317, 318, 251, 472, 473, 474, 475, 259, 258, 425, 426, 427, 428, 356, 357, 358, 359, 373, 374, 375, 376, 476, 477, 478, 479, 446, 447, 448, 449, 480, 481, 482, 483, 484, 260, 485, 486, 487, 488, 489, 490, 491, 492, 253, 493, 494, 495, 496, 252, 497, 498, 499, 500, 501, 502, 503, 504, 261, 262, 505, 506, 507, 508, 509, 510, 511, 512, 513, 514, 515, 516, 517, 518, 519, 520, 521, 522, 523, 524, 525, 526, 527, 528, 529, 530, 531, 532, 726, 727, 728, 729, 730, 731, 732, 733, 734, 735, 736, 737, 738, 739, 740, 741, 742, 743] rfl (by decide +kernel)
set_option maxRecDepth 100000 in
theorem gL_law_X8_nodeAt : GoodIn wsL_law (wsV RL 87 RX8 yX8_nodeAt wsX8_nodeAt) := goodIn_app (goodIn_of _ (by decide +kernel)) ggL_law_X8_nodeAt
set_option maxRecDepth 100000 in
theorem ggL_law_X7_leafPixels : GoodIn wsL_law wsX7_leafPixels := goodIn_r _ [588, 15, 268, 19, 466, 341, 113, 114, 18, 115, 51, 589, 590, 591, 47, 592, 61, 62, 718, 719, 720, 721, 722, 723, 724, 725, 744, 745, 746, 747, 748, 749, 750, 751, 752, 753, 754, 755, 756, 757, 758, 762, 763, 764, 765] rfl (by decide +kernel)
set_option maxRecDepth 100000 in
theorem gL_law_X7_leafPixels : GoodIn wsL_law (wsV RL 88 RX7 yX7_leafPixels wsX7_leafPixels) := goodIn_app (goodIn_of _ (by decide +kernel)) ggL_law_X7_leafPixels
