set_option maxRecDepth 100000 in
theorem ggL_law_X8_setPadding : GoodIn wsL_law wsX8_setPadding := goodIn_r _ [394, 309, 310, 5, 311, 330, 331, 332, 333, 246, 316, 317, 318, 319, 320, 247, 312, 313, 314, 315, 248, 722, 723, 724, 725, 726, 727, 728, 729, 730, 731, 732, 733, 734, 735, 736, 737, 738, 739] rfl (by decide +kernel)
set_option maxRecDepth 100000 in
theorem gL_law_X8_setPadding : GoodIn wsL_law (wsV RL 38 RX8 yX8_setPadding wsX8_setPadding) := goodIn_app (goodIn_of _ (by decide +kernel)) ggL_law_X8_setPadding
set_option maxRecDepth 100000 in
theorem ggL_law_X7_setMode : GoodIn wsL_law wsX7_setMode := goodIn_r _ [398, 23, 15, 399, 19, 273, 274, 275, 2, 276, 277, 283, 284, 285, 22, 286, 93, 287, 288, 289, 290, 291, 14, 292, 31, 293, 294, 295, 296, 32, 33, 34, 35, 36, 37, 95, 96, 97, 18, 98, 48, 99, 100, 44, 101, 49, 102, 103, 104, 105, 42, 50, 106, 51, 107, 108, 109, 110, 41, 111, 112, 113, 114, 115, 116, 117, 118, 47, 119, 59, 60, 61, 62, 120, 121, 122, 123, 124, 55, 125, 126, 127, 128, 129, 130, 131, 132, 54, 133, 134, 71, 135, 136, 137, 70, 138, 139, 140, 141, 142, 143, 144, 145, 146, 147, 148, 149, 150, 151, 152, 153, 154, 66, 67, 155, 156, 157, 158, 72, 159, 160, 161, 162, 163, 164, 165, 166, 76, 167, 168, 169, 170, 75, 171, 172, 173, 174, 175, 176, 85, 177, 178, 179, 180, 87, 86, 181, 182, 183, 184, 185, 186, 187, 188, 189, 77, 190, 78, 191, 192, 193, 194, 195, 196, 197, 198, 199, 200, 201, 202, 203, 204, 205, 206, 207, 208, 209, 210, 211, 212, 213, 214, 215, 216, 217, 218, 219, 220, 221, 222, 223, 224, 225, 226, 227, 228, 229, 230, 231, 232, 233, 234, 235, 236, 237, 238, 239, 240, 241, 714, 715, 716, 717, 718, 719, 720, 721, 740, 741, 742, 743, 744, 745, 746, 755, 756, 757, 747, 748, 749, 750, 751, 752, 753, 754, 758, 759, 760, 761, 762, 763, 764, 765, 766, 767, 768, 769, 770, 771, 772, 773, 774, 775, 776, 777] rfl (by decide +kernel)
set_option maxRecDepth 100000 in
theorem gL_law_X7_setMode : GoodIn wsL_law (wsV RL 39 RX7 yX7_setMode wsX7_setMode) := goodIn_app (goodIn_of _ (by decide +kernel)) ggL_law_X7_setMode
set_option maxRecDepth 100000 in
theorem ggL_law_X8_setMode : GoodIn wsL_law wsX8_setMode := goodIn_r _ [403, 309, 310, 5, 311, 330, 331, 332, 333, 246, 316, 317, 318, 319, 320, 247, 312, 313, 314, 315, 248, 722, 723, 724, 725, 726, 727, 728, 729, 730, 731, 732, 733, 734, 735, 736, 737, 738, 739] rfl (by decide +kernel)
set_option maxRecDepth 100000 in
theorem gL_law_X8_setMode : GoodIn wsL_law (wsV RL 42 RX8 yX8_setMode wsX8_setMode) := goodIn_app (goodIn_of _ (by decide +kernel)) ggL_law_X8_setMode
set_option maxRecDepth 100000 in
theorem ggL_law_X7_nodeCount : GoodIn wsL_law wsX7_nodeCount := goodIn_r _ [407, 15, 265, 714, 715, 716, 717, 718, 719, 720, 721, 740, 741, 742, 743, 744, 745, 746] rfl (by decide +kernel)
set_option maxRecDepth 100000 in
theorem gL_law_X7_nodeCount : GoodIn wsL_law (wsV RL 43 RX7 yX7_nodeCount wsX7_nodeCount) := goodIn_app (goodIn_of _ (by decide +kernel)) ggL_law_X7_nodeCount
set_option maxRecDepth 100000 in
theorem ggL_law_X8_nodeCount : GoodIn wsL_law wsX8_nodeCount := goodIn_r _ [411, 246, 722, 723, 724, 725, 726, 727, 728, 729, 730, 731, 732, 733, 734, 735, 736, 737, 738, 739] rfl (by decide +kernel)
set_option maxRecDepth 100000 in
theorem gL_law_X8_nodeCount : GoodIn wsL_law (wsV RL 47 RX8 yX8_nodeCount wsX8_nodeCount) := goodIn_app (goodIn_of _ (by decide +kernel)) ggL_law_X8_nodeCount
set_option maxRecDepth 100000 in
theorem ggL_law_X7_size : GoodIn wsL_law wsX7_size := goodIn_r _ [415, 15, 19, 416, 266, 267, 268, 14, 269, 33, 273, 274, 275, 2, 276, 277, 714, 715, 716, 717, 718, 719, 720, 721, 747, 748, 749, 750, 751, 752, 753, 754, 740, 741, 742, 743, 744, 745, 746] rfl (by decide +kernel)
set_option maxRecDepth 100000 in
theorem gL_law_X7_size : GoodIn wsL_law (wsV RL 48 RX7 yX7_size wsX7_size) := goodIn_app (goodIn_of _ (by decide +kernel)) ggL_law_X7_size
set_option maxRecDepth 100000 in
theorem ggL_law_X8_size : GoodIn wsL_law wsX8_size := goodIn_r _ [420, 305, 306, 307, 5, 308, 246, 309, 310, 311, 421, 422, 423, 424, 352, 353, 354, 355, 369, 370, 371, 372, 312, 313, 314, 315, 248, 722, 723, 724, 725, 726, 727, 728, 729, 730, 731, 732, 733, 734, 735, 736, 737, 738, 739] rfl (by decide +kernel)
set_option maxRecDepth 100000 in
theorem gL_law_X8_size : GoodIn wsL_law (wsV RL 51 RX8 yX8_size wsX8_size) := goodIn_app (goodIn_of _ (by decide +kernel)) ggL_law_X8_size
set_option maxRecDepth 100000 in
theorem ggL_law_X7_parent : GoodIn wsL_law wsX7_parent := goodIn_r _ [428, 15, 360, 266, 267, 268, 14, 269, 33, 273, 274, 275, 2, 276, 277, 714, 715, 716, 717, 718, 719, 720, 721, 740, 741, 742, 743, 744, 745, 746] rfl (by decide +kernel)
set_option maxRecDepth 100000 in
theorem gL_law_X7_parent : GoodIn wsL_law (wsV RL 52 RX7 yX7_parent wsX7_parent) := goodIn_app (goodIn_of _ (by decide +kernel)) ggL_law_X7_parent
set_option maxRecDepth 100000 in
theorem ggL_law_X8_parent : GoodIn wsL_law wsX8_parent := goodIn_r _ [432, 246, 305, 306, 307, 5, 308, 309, 310, 311, 312, 313, 314, 315, 248, 722, 723, 724, 725, 726, 727, 728, 729, 730, 731, 732, 733, 734, 735, 736, 737, 738, 739] rfl (by decide +kernel)
set_option maxRecDepth 100000 in
theorem gL_law_X8_parent : GoodIn wsL_law (wsV RL 55 RX8 yX8_parent wsX8_parent) := goodIn_app (goodIn_of _ (by decide +kernel)) ggL_law_X8_parent
set_option maxRecDepth 100000 in
theorem ggL_law_X7_depth : GoodIn wsL_law wsX7_depth := goodIn_r _ [436, 15, 19, 437, 266, 267, 268, 14, 269, 33, 273, 274, 275, 2, 276, 277, 714, 715, 716, 717, 718, 719, 720, 721, 747, 748, 749, 750, 751, 752, 753, 754, 740, 741, 742, 743, 744, 745, 746] rfl (by decide +kernel)
set_option maxRecDepth 100000 in
theorem gL_law_X7_depth : GoodIn wsL_law (wsV RL 56 RX7 yX7_depth wsX7_depth) := goodIn_app (goodIn_of _ (by decide +kernel)) ggL_law_X7_depth
set_option maxRecDepth 100000 in
theorem ggL_law_X8_depth : GoodIn wsL_law wsX8_depth := goodIn_r _ [441, 305, 306, 307, 5, 308, 246, 309, 310, 311, 442, 443, 444, 445, 312, 313, 314, 315, 248, 722, 723, 724, 725, 726, 727, 728, 729, 730, 731, 732, 733, 734, 735, 736, 737, 738, 739] rfl (by decide +kernel)
set_option maxRecDepth 100000 in
theorem gL_law_X8_depth : GoodIn wsL_law (wsV RL 59 RX8 yX8_depth wsX8_depth) := goodIn_app (goodIn_of _ (by decide +kernel)) ggL_law_X8_depth
set_option maxRecDepth 100000 in
theorem ggL_law_X7_leafCount : GoodIn wsL_law wsX7_leafCount := goodIn_r _ [449, 15, 265, 19, 338, 113, 114, 18, 115, 51, 714, 715, 716, 717, 718, 719, 720, 721, 740, 741, 742, 743, 744, 745, 746, 747, 748, 749, 750, 751, 752, 753, 754] rfl (by decide +kernel)
set_option maxRecDepth 100000 in
theorem gL_law_X7_leafCount : GoodIn wsL_law (wsV RL 60 RX7 yX7_leafCount wsX7_leafCount) := goodIn_app (goodIn_of _ (by decide +kernel)) ggL_law_X7_leafCount
set_option maxRecDepth 100000 in
theorem ggL_law_X8_leafCount : GoodIn wsL_law wsX8_leafCount := goodIn_r _ [453, 454, 455, 456, 5, 457, 246, 352, 353, 354, 355, 722, 723, 724, 725, 726, 727, 728, 729, 730, 731, 732, 733, 734, 735, 736, 737, 738, 739] rfl (by decide +kernel)
set_option maxRecDepth 100000 in
theorem gL_law_X8_leafCount : GoodIn wsL_law (wsV RL 63 RX8 yX8_leafCount wsX8_leafCount) := goodIn_app (goodIn_of _ (by decide +kernel)) ggL_law_X8_leafCount
