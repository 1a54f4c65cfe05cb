set_option maxRecDepth 100000 in
theorem ggL_law_X8_setPadding : GoodIn wsL_law wsX8_setPadding := goodIn_r _ [398, 312, 313, 5, 314, 333, 334, 335, 336, 249, 319, 320, 321, 322, 323, 250, 315, 316, 317, 318, 251, 726, 727, 728, 729, 730, 731, 732, 733, 734, 735, 736, 737, 738, 739, 740, 741, 742, 743] rfl (by decide +kernel)
set_option maxRecDepth 100000 in
theorem gL_law_X8_setPadding : GoodIn wsL_law (wsV RL 38 RX8 yX8_setPadding wsX8_setPadding) := goodIn_app (goodIn_of _ (by decide +kernel)) ggL_law_X8_setPadding
set_option maxRecDepth 100000 in
theorem ggL_law_X7_setMode : GoodIn wsL_law wsX7_setMode := goodIn_r _ [402, 23, 15, 403, 19, 276, 277, 278, 2, 279, 280, 286, 287, 288, 22, 289, 93, 290, 291, 292, 293, 294, 14, 295, 31, 296, 297, 298, 299, 32, 33, 34, 35, 36, 37, 95, 96, 97, 18, 98, 48, 99, 100, 44, 101, 49, 102, 103, 104, 105, 42, 50, 106, 51, 107, 108, 109, 110, 41, 111, 112, 113, 114, 115, 116, 117, 118, 47, 119, 59, 60, 61, 62, 120, 121, 122, 123, 124, 55, 125, 126, 127, 128, 129, 130, 131, 132, 54, 133, 134, 71, 135, 136, 137, 70, 138, 139, 140, 141, 142, 143, 144, 145, 146, 147, 148, 149, 150, 151, 152, 153, 154, 66, 67, 155, 156, 157, 158, 72, 159, 160, 161, 162, 163, 164, 165, 166, 76, 167, 168, 169, 170, 75, 171, 172, 173, 174, 175, 176, 85, 177, 178, 179, 180, 87, 86, 181, 182, 183, 184, 185, 186, 187, 188, 189, 77, 190, 78, 191, 192, 193, 194, 195, 196, 197, 198, 199, 200, 201, 202, 203, 204, 205, 206, 207, 208, 209, 210, 211, 212, 213, 214, 215, 216, 217, 218, 219, 220, 221, 222, 223, 224, 225, 226, 227, 228, 229, 230, 231, 232, 233, 234, 235, 236, 237, 238, 239, 240, 241, 242, 243, 244, 718, 719, 720, 721, 722, 723, 724, 725, 744, 745, 746, 747, 748, 749, 750, 759, 760, 761, 751, 752, 753, 754, 755, 756, 757, 758, 762, 763, 764, 765, 766, 767, 768, 769, 770, 771, 772, 773, 774, 775, 776, 777, 778, 779, 780, 781] rfl (by decide +kernel)
set_option maxRecDepth 100000 in
theorem gL_law_X7_setMode : GoodIn wsL_law (wsV RL 39 RX7 yX7_setMode wsX7_setMode) := goodIn_app (goodIn_of _ (by decide +kernel)) ggL_law_X7_setMode
set_option maxRecDepth 100000 in
theorem ggL_law_X8_setMode : GoodIn wsL_law wsX8_setMode := goodIn_r _ [407, 312, 313, 5, 314, 333, 334, 335, 336, 249, 319, 320, 321, 322, 323, 250, 315, 316, 317, 318, 251, 726, 727, 728, 729, 730, 731, 732, 733, 734, 735, 736, 737, 738, 739, 740, 741, 742, 743] rfl (by decide +kernel)
set_option maxRecDepth 100000 in
theorem gL_law_X8_setMode : GoodIn wsL_law (wsV RL 42 RX8 yX8_setMode wsX8_setMode) := goodIn_app (goodIn_of _ (by decide +kernel)) ggL_law_X8_setMode
set_option maxRecDepth 100000 in
theorem ggL_law_X7_nodeCount : GoodIn wsL_law wsX7_nodeCount := goodIn_r _ [411, 15, 268, 718, 719, 720, 721, 722, 723, 724, 725, 744, 745, 746, 747, 748, 749, 750] rfl (by decide +kernel)
set_option maxRecDepth 100000 in
theorem gL_law_X7_nodeCount : GoodIn wsL_law (wsV RL 43 RX7 yX7_nodeCount wsX7_nodeCount) := goodIn_app (goodIn_of _ (by decide +kernel)) ggL_law_X7_nodeCount
set_option maxRecDepth 100000 in
theorem ggL_law_X8_nodeCount : GoodIn wsL_law wsX8_nodeCount := goodIn_r _ [415, 249, 726, 727, 728, 729, 730, 731, 732, 733, 734, 735, 736, 737, 738, 739, 740, 741, 742, 743] rfl (by decide +kernel)
set_option maxRecDepth 100000 in
theorem gL_law_X8_nodeCount : GoodIn wsL_law (wsV RL 47 RX8 yX8_nodeCount wsX8_nodeCount) := goodIn_app (goodIn_of _ (by decide +kernel)) ggL_law_X8_nodeCount
set_option maxRecDepth 100000 in
theorem ggL_law_X7_size : GoodIn wsL_law wsX7_size := goodIn_r _ [419, 15, 19, 420, 269, 270, 271, 14, 272, 33, 276, 277, 278, 2, 279, 280, 718, 719, 720, 721, 722, 723, 724, 725, 751, 752, 753, 754, 755, 756, 757, 758, 744, 745, 746, 747, 748, 749, 750] rfl (by decide +kernel)
set_option maxRecDepth 100000 in
theorem gL_law_X7_size : GoodIn wsL_law (wsV RL 48 RX7 yX7_size wsX7_size) := goodIn_app (goodIn_of _ (by decide +kernel)) ggL_law_X7_size
set_option maxRecDepth 100000 in
theorem ggL_law_X8_size : GoodIn wsL_law wsX8_size := goodIn_r _ [424, 308, 309, 310, 5, 311, 249, 312, 313, 314, 425, 426, 427, 428, 356, 357, 358, 359, 373, 374, 375, 376, 315, 316, 317, 318, 251, 726, 727, 728, 729, 730, 731, 732, 733, 734, 735, 736, 737, 738, 739, 740, 741, 742, 743] rfl (by decide +kernel)
set_option maxRecDepth 100000 in
theorem gL_law_X8_size : GoodIn wsL_law (wsV RL 51 RX8 yX8_size wsX8_size) := goodIn_app (goodIn_of _ (by decide +kernel)) ggL_law_X8_size
set_option maxRecDepth 100000 in
theorem ggL_law_X7_parent : GoodIn wsL_law wsX7_parent := goodIn_r _ [432, 15, 364, 269, 270, 271, 14, 272, 33, 276, 277, 278, 2, 279, 280, 718, 719, 720, 721, 722, 723, 724, 725, 744, 745, 746, 747, 748, 749, 750] rfl (by decide +kernel)
set_option maxRecDepth 100000 in
theorem gL_law_X7_parent : GoodIn wsL_law (wsV RL 52 RX7 yX7_parent wsX7_parent) := goodIn_app (goodIn_of _ (by decide +kernel)) ggL_law_X7_parent
set_option maxRecDepth 100000 in
theorem ggL_law_X8_parent : GoodIn wsL_law wsX8_parent := goodIn_r _ [436, 249, 308, 309, 310, 5, 311, 312, 313, 314, 315, 316, 317, 318, 251, 726, 727, 728, 729, 730, 731, 732, 733, 734, 735, 736, 737, 738, 739, 740, 741, 742, 743] rfl (by decide +kernel)
set_option maxRecDepth 100000 in
theorem gL_law_X8_parent : GoodIn wsL_law (wsV RL 55 RX8 yX8_parent wsX8_parent) := goodIn_app (goodIn_of _ (by decide +kernel)) ggL_law_X8_parent
set_option maxRecDepth 100000 in
theorem ggL_law_X7_depth : GoodIn wsL_law wsX7_depth := goodIn_r _ [440, 15, 19, 441, 269, 270, 271, 14, 272, 33, 276, 277, 278, 2, 279, 280, 718, 719, 720, 721, 722, 723, 724, 725, 751, 752, 753, 754, 755, 756, 757, 758, 744, 745, 746, 747, 748, 749, 750] rfl (by decide +kernel)
set_option maxRecDepth 100000 in
theorem gL_law_X7_depth : GoodIn wsL_law (wsV RL 56 RX7 yX7_depth wsX7_depth) := goodIn_app (goodIn_of _ (by decide +kernel)) ggL_law_X7_depth
set_option maxRecDepth 100000 in
theorem ggL_law_X8_depth : GoodIn wsL_law wsX8_depth := goodIn_r _ [445, 308, 309, 310, 5, 311, 249, 312, 313, 314, 446, 447, 448, 449, 315, 316, 317, 318, 251, 726, 727, 728, 729, 730, 731, 732, 733, 734, 735, 736, 737, 738, 739, 740, 741, 742, 743] rfl (by decide +kernel)
set_option maxRecDepth 100000 in
theorem gL_law_X8_depth : GoodIn wsL_law (wsV RL 59 RX8 yX8_depth wsX8_depth) := goodIn_app (goodIn_of _ (by decide +kernel)) ggL_law_X8_depth
set_option maxRecDepth 100000 in
theorem ggL_law_X7_leafCount : GoodIn wsL_law wsX7_leafCount := goodIn_r _ [453, 15, 268, 19, 341, 113, 114, 18, 115, 51, 718, 719, 720, 721, 722, 723, 724, 725, 744, 745, 746, 747, 748, 749, 750, 751, 752, 753, 754, 755, 756, 757, 758] rfl (by decide +kernel)
set_option maxRecDepth 100000 in
theorem gL_law_X7_leafCount : GoodIn wsL_law (wsV RL 60 RX7 yX7_leafCount wsX7_leafCount) := goodIn_app (goodIn_of _ (by decide +kernel)) ggL_law_X7_leafCount
set_option maxRecDepth 100000 in
theorem ggL_law_X8_leafCount : GoodIn wsL_law wsX8_leafCount := goodIn_r _ [457, 458, 459, 460, 5, 461, 249, 356, 357, 358, 359, 726, 727, 728, 729, 730, 731, 732, 733, 734, 735, 736, 737, 738, 739, 740, 741, 742, 743] rfl (by decide +kernel)
set_option maxRecDepth 100000 in
theorem gL_law_X8_leafCount : GoodIn wsL_law (wsV RL 63 RX8 yX8_leafCount wsX8_leafCount) := goodIn_app (goodIn_of _ (by decide +kernel)) ggL_law_X8_leafCount
