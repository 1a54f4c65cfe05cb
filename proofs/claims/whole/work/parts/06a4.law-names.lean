set_option maxRecDepth 20000 in
theorem ggL_law_X7_nodeCount : GoodIn wsL_law wsX7_nodeCount := goodIn_r _ [407, 15, 265, 714, 715, 716, 717, 718, 719, 720, 721, 740, 741, 742, 743, 744, 745, 746] (by decide +kernel) (by decide +kernel)
set_option maxRecDepth 20000 in
theorem gL_law_X7_nodeCount : GoodIn wsL_law (wsV RL 43 RX7 yX7_nodeCount wsX7_nodeCount) := goodIn_app (goodIn_of _ (by decide +kernel)) ggL_law_X7_nodeCount
set_option maxRecDepth 20000 in
theorem ggL_law_X8_nodeCount : GoodIn wsL_law wsX8_nodeCount := goodIn_r _ [411, 246, 722, 723, 724, 725, 726, 727, 728, 729, 730, 731, 732, 733, 734, 735, 736, 737, 738, 739] (by decide +kernel) (by decide +kernel)
set_option maxRecDepth 20000 in
theorem gL_law_X8_nodeCount : GoodIn wsL_law (wsV RL 47 RX8 yX8_nodeCount wsX8_nodeCount) := goodIn_app (goodIn_of _ (by decide +kernel)) ggL_law_X8_nodeCount
set_option maxRecDepth 20000 in
theorem ggL_law_X7_size : GoodIn wsL_law wsX7_size := goodIn_r _ [415, 15, 19, 416, 266, 267, 268, 14, 269, 33, 273, 274, 275, 2, 276, 277, 714, 715, 716, 717, 718, 719, 720, 721, 747, 748, 749, 750, 751, 752, 753, 754, 740, 741, 742, 743, 744, 745, 746] (by decide +kernel) (by decide +kernel)
set_option maxRecDepth 20000 in
theorem gL_law_X7_size : GoodIn wsL_law (wsV RL 48 RX7 yX7_size wsX7_size) := goodIn_app (goodIn_of _ (by decide +kernel)) ggL_law_X7_size
set_option maxRecDepth 20000 in
theorem ggL_law_X8_size : GoodIn wsL_law wsX8_size := goodIn_r _ [420, 305, 306, 307, 5, 308, 246, 309, 310, 311, 421, 422, 423, 424, 352, 353, 354, 355, 369, 370, 371, 372, 312, 313, 314, 315, 248, 722, 723, 724, 725, 726, 727, 728, 729, 730, 731, 732, 733, 734, 735, 736, 737, 738, 739] (by decide +kernel) (by decide +kernel)
set_option maxRecDepth 20000 in
theorem gL_law_X8_size : GoodIn wsL_law (wsV RL 51 RX8 yX8_size wsX8_size) := goodIn_app (goodIn_of _ (by decide +kernel)) ggL_law_X8_size
