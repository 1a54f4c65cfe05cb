set_option maxRecDepth 20000 in
theorem ggL_law_X7_errorCount : GoodIn wsL_law wsX7_errorCount := goodIn_r _ [682, 277, 343, 282, 273, 274, 275, 2, 276, 714, 715, 716, 717, 718, 719, 720, 721] (by decide +kernel) (by decide +kernel)
set_option maxRecDepth 20000 in
theorem gL_law_X7_errorCount : GoodIn wsL_law (wsV RL 108 RX7 yX7_errorCount wsX7_errorCount) := goodIn_app (goodIn_of _ (by decide +kernel)) ggL_law_X7_errorCount
set_option maxRecDepth 20000 in
theorem ggL_law_X8_errorCount : GoodIn wsL_law wsX8_errorCount := goodIn_r _ [686, 248, 309, 310, 5, 311, 312, 313, 314, 315, 722, 723, 724, 725, 726, 727, 728, 729, 730, 731, 732, 733, 734, 735, 736, 737, 738, 739] (by decide +kernel) (by decide +kernel)
set_option maxRecDepth 20000 in
theorem gL_law_X8_errorCount : GoodIn wsL_law (wsV RL 111 RX8 yX8_errorCount wsX8_errorCount) := goodIn_app (goodIn_of _ (by decide +kernel)) ggL_law_X8_errorCount
set_option maxRecDepth 20000 in
theorem ggL_law_X7_digest : GoodIn wsL_law wsX7_digest := goodIn_r _ [690, 691, 277, 343, 282, 23, 670, 15, 377, 378, 390, 399, 265, 692, 693, 2, 694, 695, 696, 697, 698, 699, 325, 19, 416, 360, 462, 463, 533, 542, 551, 560, 561, 562, 563, 564, 700, 582, 583, 584, 338, 113, 114, 18, 115, 51, 585, 586, 587, 47, 588, 61, 62, 701, 598, 599, 600, 601, 602, 603, 604, 48, 112, 605, 606, 607, 608, 609, 610, 611, 228, 612, 613, 227, 229, 614, 615, 616, 617, 618, 702, 640, 641, 642, 714, 715, 716, 717, 718, 719, 720, 721, 755, 756, 757, 740, 741, 742, 743, 744, 745, 746, 747, 748, 749, 750, 751, 752, 753, 754, 758, 759, 760, 761] (by decide +kernel) (by decide +kernel)
set_option maxRecDepth 20000 in
theorem gL_law_X7_digest : GoodIn wsL_law (wsV RL 112 RX7 yX7_digest wsX7_digest) := goodIn_app (goodIn_of _ (by decide +kernel)) ggL_law_X7_digest
set_option maxRecDepth 20000 in
theorem ggL_law_X8_digest : GoodIn wsL_law wsX8_digest := goodIn_r _ [706, 707, 708, 248, 320, 246, 256, 251, 252, 253, 254, 255, 709, 710, 711, 5, 712, 713, 468, 469, 470, 471, 421, 422, 423, 424, 352, 353, 354, 355, 369, 370, 371, 372, 472, 473, 474, 475, 442, 443, 444, 445, 476, 477, 478, 479, 480, 257, 481, 482, 483, 484, 485, 486, 487, 488, 250, 489, 490, 491, 492, 249, 493, 494, 495, 496, 497, 498, 499, 500, 258, 259, 501, 502, 503, 504, 505, 506, 507, 508, 509, 510, 511, 512, 513, 514, 515, 516, 517, 518, 519, 520, 521, 522, 523, 524, 525, 526, 527, 528, 593, 594, 595, 596, 623, 624, 625, 626, 627, 628, 629, 630, 631, 632, 633, 634, 635, 636, 637, 638, 722, 723, 724, 725, 726, 727, 728, 729, 730, 731, 732, 733, 734, 735, 736, 737, 738, 739] (by decide +kernel) (by decide +kernel)
set_option maxRecDepth 20000 in
theorem gL_law_X8_digest : GoodIn wsL_law (wsV RL 116 RX8 yX8_digest wsX8_digest) := goodIn_app (goodIn_of _ (by decide +kernel)) ggL_law_X8_digest
