theorem dX8_sumOf_26 : decode cX8_sumOf 26 = .ok (.iadd, 1) := by decide +kernel
theorem dX8_sumOf_27 : decode cX8_sumOf 27 = .ok (.istore_n 3, 1) := by decide +kernel
theorem dX8_sumOf_28 : decode cX8_sumOf 28 = .ok (.iinc 4 1, 3) := by decide +kernel
theorem dX8_sumOf_31 : decode cX8_sumOf 31 = .ok (.goto (-26), 3) := by decide +kernel
theorem dX8_sumOf_34 : decode cX8_sumOf 34 = .ok (.iload_n 3, 1) := by decide +kernel
theorem dX8_sumOf_35 : decode cX8_sumOf 35 = .ok (.ireturn, 1) := by decide +kernel
set_option maxRecDepth 20000 in
theorem ggX8_laysRow_X8_laysSizes : GoodIn wsX8_laysRow wsX8_laysSizes := goodIn_r _ [7, 8, 9, 2, 22, 23, 24, 25, 26, 27, 28, 29, 30, 31, 32, 33, 34, 35, 36, 37, 38, 39] (by decide +kernel) (by decide +kernel)
set_option maxRecDepth 20000 in
theorem gX8_laysRow_X8_laysSizes : GoodIn wsX8_laysRow (wsV RX8 99 RX8 yX8_laysSizes wsX8_laysSizes) := goodIn_app (goodIn_of _ (by decide +kernel)) ggX8_laysRow_X8_laysSizes
set_option maxRecDepth 20000 in
theorem ggX8_laysRow_X8_parts : GoodIn wsX8_laysRow wsX8_parts := goodIn_r _ [13, 8, 1, 22, 23, 24, 25, 26, 27, 28, 29, 30, 31, 32, 33, 34, 35, 36, 37, 38, 39] (by decide +kernel) (by decide +kernel)
set_option maxRecDepth 20000 in
theorem gX8_laysRow_X8_parts : GoodIn wsX8_laysRow (wsV RX8 103 RX8 yX8_parts wsX8_parts) := goodIn_app (goodIn_of _ (by decide +kernel)) ggX8_laysRow_X8_parts
set_option maxRecDepth 20000 in
theorem ggX8_laysRow_X8_puts : GoodIn wsX8_laysRow wsX8_puts := goodIn_r _ [17, 18, 19, 20, 21, 22, 23, 24, 25, 26, 27, 28, 29, 30, 31, 32, 33, 34, 35, 36, 37, 38, 39] (by decide +kernel) (by decide +kernel)
set_option maxRecDepth 20000 in
theorem gX8_laysRow_X8_puts : GoodIn wsX8_laysRow (wsV RX8 106 RX8 yX8_puts wsX8_puts) := goodIn_app (goodIn_of _ (by decide +kernel)) ggX8_laysRow_X8_puts
theorem dX8_laysRow_0 : decode cX8_laysRow 0 = .ok (.aload_n 0, 1) := by decide +kernel
theorem dX8_laysRow_1 : decode cX8_laysRow 1 = .ok (.iload_n 1, 1) := by decide +kernel
theorem dX8_laysRow_2 : decode cX8_laysRow 2 = .ok (.iload_n 2, 1) := by decide +kernel
theorem dX8_laysRow_3 : decode cX8_laysRow 3 = .ok (.invokevirtual 99, 3) := by decide +kernel
theorem dX8_laysRow_6 : decode cX8_laysRow 6 = .ok (.aload_n 0, 1) := by decide +kernel
theorem dX8_laysRow_7 : decode cX8_laysRow 7 = .ok (.iload 7, 2) := by decide +kernel
theorem dX8_laysRow_9 : decode cX8_laysRow 9 = .ok (.ifCond .eq 8, 3) := by decide +kernel
theorem dX8_laysRow_12 : decode cX8_laysRow 12 = .ok (.iload 5, 2) := by decide +kernel
theorem dX8_laysRow_14 : decode cX8_laysRow 14 = .ok (.goto 5, 3) := by decide +kernel
theorem dX8_laysRow_17 : decode cX8_laysRow 17 = .ok (.iload 6, 2) := by decide +kernel
theorem dX8_laysRow_19 : decode cX8_laysRow 19 = .ok (.iload_n 2, 1) := by decide +kernel
theorem dX8_laysRow_20 : decode cX8_laysRow 20 = .ok (.invokevirtual 103, 3) := by decide +kernel
theorem dX8_laysRow_23 : decode cX8_laysRow 23 = .ok (.iload 7, 2) := by decide +kernel
theorem dX8_laysRow_25 : decode cX8_laysRow 25 = .ok (.ifCond .eq 7, 3) := by decide +kernel
theorem dX8_laysRow_28 : decode cX8_laysRow 28 = .ok (.iload_n 3, 1) := by decide +kernel
theorem dX8_laysRow_29 : decode cX8_laysRow 29 = .ok (.goto 5, 3) := by decide +kernel
theorem dX8_laysRow_32 : decode cX8_laysRow 32 = .ok (.iload 4, 2) := by decide +kernel
theorem dX8_laysRow_34 : decode cX8_laysRow 34 = .ok (.istore 8, 2) := by decide +kernel
theorem dX8_laysRow_36 : decode cX8_laysRow 36 = .ok (.iconst 0, 1) := by decide +kernel
theorem dX8_laysRow_37 : decode cX8_laysRow 37 = .ok (.istore 9, 2) := by decide +kernel
theorem dX8_laysRow_39 : decode cX8_laysRow 39 = .ok (.iload 9, 2) := by decide +kernel
theorem dX8_laysRow_41 : decode cX8_laysRow 41 = .ok (.iload_n 2, 1) := by decide +kernel
theorem dX8_laysRow_42 : decode cX8_laysRow 42 = .ok (.if_icmp .ge 85, 3) := by decide +kernel
theorem dX8_laysRow_45 : decode cX8_laysRow 45 = .ok (.aload_n 0, 1) := by decide +kernel
theorem dX8_laysRow_46 : decode cX8_laysRow 46 = .ok (.getfield 22, 3) := by decide +kernel
theorem dX8_laysRow_49 : decode cX8_laysRow 49 = .ok (.iload 9, 2) := by decide +kernel
theorem dX8_laysRow_51 : decode cX8_laysRow 51 = .ok (.iaload, 1) := by decide +kernel
theorem dX8_laysRow_52 : decode cX8_laysRow 52 = .ok (.istore 10, 2) := by decide +kernel
theorem dX8_laysRow_54 : decode cX8_laysRow 54 = .ok (.aload_n 0, 1) := by decide +kernel
theorem dX8_laysRow_55 : decode cX8_laysRow 55 = .ok (.aload_n 0, 1) := by decide +kernel
theorem dX8_laysRow_56 : decode cX8_laysRow 56 = .ok (.getfield 44, 3) := by decide +kernel
theorem dX8_laysRow_59 : decode cX8_laysRow 59 = .ok (.iload_n 1, 1) := by decide +kernel
theorem dX8_laysRow_60 : decode cX8_laysRow 60 = .ok (.iload 9, 2) := by decide +kernel
theorem dX8_laysRow_62 : decode cX8_laysRow 62 = .ok (.iadd, 1) := by decide +kernel
theorem dX8_laysRow_63 : decode cX8_laysRow 63 = .ok (.iaload, 1) := by decide +kernel
theorem dX8_laysRow_64 : decode cX8_laysRow 64 = .ok (.iload 7, 2) := by decide +kernel
theorem dX8_laysRow_66 : decode cX8_laysRow 66 = .ok (.ifCond .eq 8, 3) := by decide +kernel
theorem dX8_laysRow_69 : decode cX8_laysRow 69 = .ok (.iload 8, 2) := by decide +kernel
theorem dX8_laysRow_71 : decode cX8_laysRow 71 = .ok (.goto 4, 3) := by decide +kernel
theorem dX8_laysRow_74 : decode cX8_laysRow 74 = .ok (.iload_n 3, 1) := by decide +kernel
theorem dX8_laysRow_75 : decode cX8_laysRow 75 = .ok (.iload 7, 2) := by decide +kernel
theorem dX8_laysRow_77 : decode cX8_laysRow 77 = .ok (.ifCond .eq 8, 3) := by decide +kernel
theorem dX8_laysRow_80 : decode cX8_laysRow 80 = .ok (.iload 4, 2) := by decide +kernel
theorem dX8_laysRow_82 : decode cX8_laysRow 82 = .ok (.goto 5, 3) := by decide +kernel
theorem dX8_laysRow_85 : decode cX8_laysRow 85 = .ok (.iload 8, 2) := by decide +kernel
theorem dX8_laysRow_87 : decode cX8_laysRow 87 = .ok (.iload 7, 2) := by decide +kernel
theorem dX8_laysRow_89 : decode cX8_laysRow 89 = .ok (.ifCond .eq 8, 3) := by decide +kernel
theorem dX8_laysRow_92 : decode cX8_laysRow 92 = .ok (.iload 10, 2) := by decide +kernel
theorem dX8_laysRow_94 : decode cX8_laysRow 94 = .ok (.goto 5, 3) := by decide +kernel
theorem dX8_laysRow_97 : decode cX8_laysRow 97 = .ok (.iload 5, 2) := by decide +kernel
theorem dX8_laysRow_99 : decode cX8_laysRow 99 = .ok (.iload 7, 2) := by decide +kernel
theorem dX8_laysRow_101 : decode cX8_laysRow 101 = .ok (.ifCond .eq 8, 3) := by decide +kernel
theorem dX8_laysRow_104 : decode cX8_laysRow 104 = .ok (.iload 6, 2) := by decide +kernel
theorem dX8_laysRow_106 : decode cX8_laysRow 106 = .ok (.goto 5, 3) := by decide +kernel
theorem dX8_laysRow_109 : decode cX8_laysRow 109 = .ok (.iload 10, 2) := by decide +kernel
theorem dX8_laysRow_111 : decode cX8_laysRow 111 = .ok (.invokevirtual 106, 3) := by decide +kernel
theorem dX8_laysRow_114 : decode cX8_laysRow 114 = .ok (.iload 8, 2) := by decide +kernel
theorem dX8_laysRow_116 : decode cX8_laysRow 116 = .ok (.iload 10, 2) := by decide +kernel
theorem dX8_laysRow_118 : decode cX8_laysRow 118 = .ok (.iadd, 1) := by decide +kernel
theorem dX8_laysRow_119 : decode cX8_laysRow 119 = .ok (.istore 8, 2) := by decide +kernel
theorem dX8_laysRow_121 : decode cX8_laysRow 121 = .ok (.iinc 9 1, 3) := by decide +kernel
theorem dX8_laysRow_124 : decode cX8_laysRow 124 = .ok (.goto (-85), 3) := by decide +kernel
theorem dX8_laysRow_127 : decode cX8_laysRow 127 = .ok (.return_, 1) := by decide +kernel
set_option maxRecDepth 20000 in
theorem ggX8_aspect_X8_sumOf : GoodIn wsX8_aspect wsX8_sumOf := goodIn_r _ [6, 1, 7, 8, 9, 10, 11, 12, 13, 14, 15, 16, 17, 18, 19, 20, 21, 22, 23, 24, 25] (by decide +kernel) (by decide +kernel)
set_option maxRecDepth 20000 in
theorem gX8_aspect_X8_sumOf : GoodIn wsX8_aspect (wsV RX8 110 RX8 yX8_sumOf wsX8_sumOf) := goodIn_app (goodIn_of _ (by decide +kernel)) ggX8_aspect_X8_sumOf
theorem dX8_aspect_0 : decode cX8_aspect 0 = .ok (.aload_n 0, 1) := by decide +kernel
theorem dX8_aspect_1 : decode cX8_aspect 1 = .ok (.iload_n 2, 1) := by decide +kernel
theorem dX8_aspect_2 : decode cX8_aspect 2 = .ok (.iload_n 3, 1) := by decide +kernel
theorem dX8_aspect_3 : decode cX8_aspect 3 = .ok (.invokevirtual 110, 3) := by decide +kernel
theorem dX8_aspect_6 : decode cX8_aspect 6 = .ok (.i2f, 1) := by decide +kernel
theorem dX8_aspect_7 : decode cX8_aspect 7 = .ok (.fload 4, 2) := by decide +kernel
theorem dX8_aspect_9 : decode cX8_aspect 9 = .ok (.fmul, 1) := by decide +kernel
theorem dX8_aspect_10 : decode cX8_aspect 10 = .ok (.iload 5, 2) := by decide +kernel
theorem dX8_aspect_12 : decode cX8_aspect 12 = .ok (.i2f, 1) := by decide +kernel
theorem dX8_aspect_13 : decode cX8_aspect 13 = .ok (.fdiv, 1) := by decide +kernel
theorem dX8_aspect_14 : decode cX8_aspect 14 = .ok (.fstore 6, 2) := by decide +kernel
theorem dX8_aspect_16 : decode cX8_aspect 16 = .ok (.aload_n 0, 1) := by decide +kernel
theorem dX8_aspect_17 : decode cX8_aspect 17 = .ok (.getfield 41, 3) := by decide +kernel
theorem dX8_aspect_20 : decode cX8_aspect 20 = .ok (.iload_n 1, 1) := by decide +kernel
theorem dX8_aspect_21 : decode cX8_aspect 21 = .ok (.iaload, 1) := by decide +kernel
theorem dX8_aspect_22 : decode cX8_aspect 22 = .ok (.i2f, 1) := by decide +kernel
theorem dX8_aspect_23 : decode cX8_aspect 23 = .ok (.fload 4, 2) := by decide +kernel
theorem dX8_aspect_25 : decode cX8_aspect 25 = .ok (.fmul, 1) := by decide +kernel
theorem dX8_aspect_26 : decode cX8_aspect 26 = .ok (.fload 6, 2) := by decide +kernel
theorem dX8_aspect_28 : decode cX8_aspect 28 = .ok (.fdiv, 1) := by decide +kernel
theorem dX8_aspect_29 : decode cX8_aspect 29 = .ok (.fstore 7, 2) := by decide +kernel
theorem dX8_aspect_31 : decode cX8_aspect 31 = .ok (.fload 7, 2) := by decide +kernel
theorem dX8_aspect_33 : decode cX8_aspect 33 = .ok (.fload 6, 2) := by decide +kernel
theorem dX8_aspect_35 : decode cX8_aspect 35 = .ok (.fdiv, 1) := by decide +kernel
theorem dX8_aspect_36 : decode cX8_aspect 36 = .ok (.fstore 8, 2) := by decide +kernel
theorem dX8_aspect_38 : decode cX8_aspect 38 = .ok (.fload 6, 2) := by decide +kernel
theorem dX8_aspect_40 : decode cX8_aspect 40 = .ok (.fload 7, 2) := by decide +kernel
theorem dX8_aspect_42 : decode cX8_aspect 42 = .ok (.fdiv, 1) := by decide +kernel
theorem dX8_aspect_43 : decode cX8_aspect 43 = .ok (.fstore 9, 2) := by decide +kernel
theorem dX8_aspect_45 : decode cX8_aspect 45 = .ok (.fload 8, 2) := by decide +kernel
theorem dX8_aspect_47 : decode cX8_aspect 47 = .ok (.fload 9, 2) := by decide +kernel
theorem dX8_aspect_49 : decode cX8_aspect 49 = .ok (.fcmp .l, 1) := by decide +kernel
theorem dX8_aspect_50 : decode cX8_aspect 50 = .ok (.ifCond .le 8, 3) := by decide +kernel
theorem dX8_aspect_53 : decode cX8_aspect 53 = .ok (.fload 8, 2) := by decide +kernel
theorem dX8_aspect_55 : decode cX8_aspect 55 = .ok (.goto 5, 3) := by decide +kernel
theorem dX8_aspect_58 : decode cX8_aspect 58 = .ok (.fload 9, 2) := by decide +kernel
theorem dX8_aspect_60 : decode cX8_aspect 60 = .ok (.freturn, 1) := by decide +kernel
set_option maxRecDepth 20000 in
theorem ggX8_average_X8_aspect : GoodIn wsX8_average wsX8_aspect := goodIn_r _ [6, 7, 8, 9, 10, 5, 11, 1, 12, 13, 14, 15, 16, 17, 18, 19, 20, 21, 22, 23, 24, 25, 26, 27, 28, 29] (by decide +kernel) (by decide +kernel)
set_option maxRecDepth 20000 in
theorem gX8_average_X8_aspect : GoodIn wsX8_average (wsV RX8 113 RX8 yX8_aspect wsX8_aspect) := goodIn_app (goodIn_of _ (by decide +kernel)) ggX8_average_X8_aspect
theorem dX8_average_0 : decode cX8_average 0 = .ok (.fconst 0, 1) := by decide +kernel
theorem dX8_average_1 : decode cX8_average 1 = .ok (.fstore 5, 2) := by decide +kernel
theorem dX8_average_3 : decode cX8_average 3 = .ok (.iconst 0, 1) := by decide +kernel
theorem dX8_average_4 : decode cX8_average 4 = .ok (.istore 6, 2) := by decide +kernel
theorem dX8_average_6 : decode cX8_average 6 = .ok (.iload 6, 2) := by decide +kernel
theorem dX8_average_8 : decode cX8_average 8 = .ok (.iload_n 2, 1) := by decide +kernel
theorem dX8_average_9 : decode cX8_average 9 = .ok (.if_icmp .ge 32, 3) := by decide +kernel
theorem dX8_average_12 : decode cX8_average 12 = .ok (.fload 5, 2) := by decide +kernel
theorem dX8_average_14 : decode cX8_average 14 = .ok (.aload_n 0, 1) := by decide +kernel
theorem dX8_average_15 : decode cX8_average 15 = .ok (.aload_n 0, 1) := by decide +kernel
theorem dX8_average_16 : decode cX8_average 16 = .ok (.getfield 44, 3) := by decide +kernel
theorem dX8_average_19 : decode cX8_average 19 = .ok (.iload_n 1, 1) := by decide +kernel
theorem dX8_average_20 : decode cX8_average 20 = .ok (.iload 6, 2) := by decide +kernel
theorem dX8_average_22 : decode cX8_average 22 = .ok (.iadd, 1) := by decide +kernel
theorem dX8_average_23 : decode cX8_average 23 = .ok (.iaload, 1) := by decide +kernel
theorem dX8_average_24 : decode cX8_average 24 = .ok (.iload_n 1, 1) := by decide +kernel
theorem dX8_average_25 : decode cX8_average 25 = .ok (.iload_n 2, 1) := by decide +kernel
theorem dX8_average_26 : decode cX8_average 26 = .ok (.fload_n 3, 1) := by decide +kernel
theorem dX8_average_27 : decode cX8_average 27 = .ok (.iload 4, 2) := by decide +kernel
theorem dX8_average_29 : decode cX8_average 29 = .ok (.invokevirtual 113, 3) := by decide +kernel
theorem dX8_average_32 : decode cX8_average 32 = .ok (.fadd, 1) := by decide +kernel
theorem dX8_average_33 : decode cX8_average 33 = .ok (.fstore 5, 2) := by decide +kernel
theorem dX8_average_35 : decode cX8_average 35 = .ok (.iinc 6 1, 3) := by decide +kernel
theorem dX8_average_38 : decode cX8_average 38 = .ok (.goto (-32), 3) := by decide +kernel
theorem dX8_average_41 : decode cX8_average 41 = .ok (.fload 5, 2) := by decide +kernel
theorem dX8_average_43 : decode cX8_average 43 = .ok (.iload_n 2, 1) := by decide +kernel
theorem dX8_average_44 : decode cX8_average 44 = .ok (.i2f, 1) := by decide +kernel
theorem dX8_average_45 : decode cX8_average 45 = .ok (.fdiv, 1) := by decide +kernel
theorem dX8_average_46 : decode cX8_average 46 = .ok (.freturn, 1) := by decide +kernel
set_option maxRecDepth 20000 in
theorem ggX8_worst_X8_aspect : GoodIn wsX8_worst wsX8_aspect := goodIn_r _ [6, 7, 8, 9, 10, 5, 11, 1, 12, 13, 14, 15, 16, 17, 18, 19, 20, 21, 22, 23, 24, 25, 26, 27, 28, 29] (by decide +kernel) (by decide +kernel)
set_option maxRecDepth 20000 in
theorem gX8_worst_X8_aspect : GoodIn wsX8_worst (wsV RX8 113 RX8 yX8_aspect wsX8_aspect) := goodIn_app (goodIn_of _ (by decide +kernel)) ggX8_worst_X8_aspect
theorem dX8_worst_0 : decode cX8_worst 0 = .ok (.fconst 0, 1) := by decide +kernel
theorem dX8_worst_1 : decode cX8_worst 1 = .ok (.fstore 5, 2) := by decide +kernel
theorem dX8_worst_3 : decode cX8_worst 3 = .ok (.iconst 0, 1) := by decide +kernel
theorem dX8_worst_4 : decode cX8_worst 4 = .ok (.istore 6, 2) := by decide +kernel
theorem dX8_worst_6 : decode cX8_worst 6 = .ok (.iload 6, 2) := by decide +kernel
theorem dX8_worst_8 : decode cX8_worst 8 = .ok (.iload_n 2, 1) := by decide +kernel
theorem dX8_worst_9 : decode cX8_worst 9 = .ok (.if_icmp .ge 46, 3) := by decide +kernel
theorem dX8_worst_12 : decode cX8_worst 12 = .ok (.aload_n 0, 1) := by decide +kernel
theorem dX8_worst_13 : decode cX8_worst 13 = .ok (.aload_n 0, 1) := by decide +kernel
theorem dX8_worst_14 : decode cX8_worst 14 = .ok (.getfield 44, 3) := by decide +kernel
theorem dX8_worst_17 : decode cX8_worst 17 = .ok (.iload_n 1, 1) := by decide +kernel
theorem dX8_worst_18 : decode cX8_worst 18 = .ok (.iload 6, 2) := by decide +kernel
theorem dX8_worst_20 : decode cX8_worst 20 = .ok (.iadd, 1) := by decide +kernel
theorem dX8_worst_21 : decode cX8_worst 21 = .ok (.iaload, 1) := by decide +kernel
theorem dX8_worst_22 : decode cX8_worst 22 = .ok (.iload_n 1, 1) := by decide +kernel
theorem dX8_worst_23 : decode cX8_worst 23 = .ok (.iload_n 2, 1) := by decide +kernel
theorem dX8_worst_24 : decode cX8_worst 24 = .ok (.fload_n 3, 1) := by decide +kernel
theorem dX8_worst_25 : decode cX8_worst 25 = .ok (.iload 4, 2) := by decide +kernel
theorem dX8_worst_27 : decode cX8_worst 27 = .ok (.invokevirtual 113, 3) := by decide +kernel
theorem dX8_worst_30 : decode cX8_worst 30 = .ok (.fstore 7, 2) := by decide +kernel
theorem dX8_worst_32 : decode cX8_worst 32 = .ok (.fload 7, 2) := by decide +kernel
theorem dX8_worst_34 : decode cX8_worst 34 = .ok (.fload 5, 2) := by decide +kernel
theorem dX8_worst_36 : decode cX8_worst 36 = .ok (.fcmp .l, 1) := by decide +kernel
theorem dX8_worst_37 : decode cX8_worst 37 = .ok (.ifCond .le 8, 3) := by decide +kernel
theorem dX8_worst_40 : decode cX8_worst 40 = .ok (.fload 7, 2) := by decide +kernel
theorem dX8_worst_42 : decode cX8_worst 42 = .ok (.goto 5, 3) := by decide +kernel
theorem dX8_worst_45 : decode cX8_worst 45 = .ok (.fload 5, 2) := by decide +kernel
theorem dX8_worst_47 : decode cX8_worst 47 = .ok (.fstore 5, 2) := by decide +kernel
theorem dX8_worst_49 : decode cX8_worst 49 = .ok (.iinc 6 1, 3) := by decide +kernel
theorem dX8_worst_52 : decode cX8_worst 52 = .ok (.goto (-46), 3) := by decide +kernel
theorem dX8_worst_55 : decode cX8_worst 55 = .ok (.fload 5, 2) := by decide +kernel
theorem dX8_worst_57 : decode cX8_worst 57 = .ok (.freturn, 1) := by decide +kernel
set_option maxRecDepth 20000 in
theorem ggX8_laysStrips_X8_average : GoodIn wsX8_laysStrips wsX8_average := goodIn_r _ [10, 11, 12, 13, 14, 9, 15, 16, 17, 18, 19, 20, 41, 42, 43, 44, 45, 46, 47, 48, 49, 50, 51, 52, 53, 54, 55, 56, 57, 58] (by decide +kernel) (by decide +kernel)
set_option maxRecDepth 20000 in
theorem gX8_laysStrips_X8_average : GoodIn wsX8_laysStrips (wsV RX8 117 RX8 yX8_average wsX8_average) := goodIn_app (goodIn_of _ (by decide +kernel)) ggX8_laysStrips_X8_average
set_option maxRecDepth 20000 in
theorem ggX8_laysStrips_X8_sumOf : GoodIn wsX8_laysStrips wsX8_sumOf := goodIn_r _ [20, 16, 11, 41, 42, 43, 44, 45, 46, 47, 48, 49, 50, 51, 52, 53, 54, 55, 56, 57, 58] (by decide +kernel) (by decide +kernel)
set_option maxRecDepth 20000 in
theorem gX8_laysStrips_X8_sumOf : GoodIn wsX8_laysStrips (wsV RX8 110 RX8 yX8_sumOf wsX8_sumOf) := goodIn_app (goodIn_of _ (by decide +kernel)) ggX8_laysStrips_X8_sumOf
set_option maxRecDepth 20000 in
theorem ggX8_laysStrips_X8_parts : GoodIn wsX8_laysStrips wsX8_parts := goodIn_r _ [24, 3, 5, 41, 42, 43, 44, 45, 46, 47, 48, 49, 50, 51, 52, 53, 54, 55, 56, 57, 58] (by decide +kernel) (by decide +kernel)
set_option maxRecDepth 20000 in
theorem gX8_laysStrips_X8_parts : GoodIn wsX8_laysStrips (wsV RX8 103 RX8 yX8_parts wsX8_parts) := goodIn_app (goodIn_of _ (by decide +kernel)) ggX8_laysStrips_X8_parts
set_option maxRecDepth 20000 in
theorem ggX8_laysStrips_X8_laysRow : GoodIn wsX8_laysStrips wsX8_laysRow := goodIn_r _ [28, 5, 11, 29, 30, 31, 9, 32, 3, 16, 21, 22, 23, 24, 33, 34, 35, 36, 37, 38, 39, 40, 41, 42, 43, 44, 45, 46, 47, 48, 49, 50, 51, 52, 53, 54, 55, 56, 57, 58] (by decide +kernel) (by decide +kernel)
set_option maxRecDepth 20000 in
theorem gX8_laysStrips_X8_laysRow : GoodIn wsX8_laysStrips (wsV RX8 121 RX8 yX8_laysRow wsX8_laysRow) := goodIn_app (goodIn_of _ (by decide +kernel)) ggX8_laysStrips_X8_laysRow
theorem dX8_laysStrips_0 : decode cX8_laysStrips 0 = .ok (.iload_n 3, 1) := by decide +kernel
theorem dX8_laysStrips_1 : decode cX8_laysStrips 1 = .ok (.iload 4, 2) := by decide +kernel
theorem dX8_laysStrips_3 : decode cX8_laysStrips 3 = .ok (.imul, 1) := by decide +kernel
theorem dX8_laysStrips_4 : decode cX8_laysStrips 4 = .ok (.i2f, 1) := by decide +kernel
theorem dX8_laysStrips_5 : decode cX8_laysStrips 5 = .ok (.iload 5, 2) := by decide +kernel
theorem dX8_laysStrips_7 : decode cX8_laysStrips 7 = .ok (.i2f, 1) := by decide +kernel
theorem dX8_laysStrips_8 : decode cX8_laysStrips 8 = .ok (.fdiv, 1) := by decide +kernel
theorem dX8_laysStrips_9 : decode cX8_laysStrips 9 = .ok (.fstore 6, 2) := by decide +kernel
theorem dX8_laysStrips_11 : decode cX8_laysStrips 11 = .ok (.iconst 1, 1) := by decide +kernel
theorem dX8_laysStrips_12 : decode cX8_laysStrips 12 = .ok (.istore 7, 2) := by decide +kernel
theorem dX8_laysStrips_14 : decode cX8_laysStrips 14 = .ok (.aload_n 0, 1) := by decide +kernel
theorem dX8_laysStrips_15 : decode cX8_laysStrips 15 = .ok (.getfield 47, 3) := by decide +kernel
theorem dX8_laysStrips_18 : decode cX8_laysStrips 18 = .ok (.iconst 0, 1) := by decide +kernel
theorem dX8_laysStrips_19 : decode cX8_laysStrips 19 = .ok (.iconst 0, 1) := by decide +kernel
theorem dX8_laysStrips_20 : decode cX8_laysStrips 20 = .ok (.iastore, 1) := by decide +kernel
theorem dX8_laysStrips_21 : decode cX8_laysStrips 21 = .ok (.iconst 1, 1) := by decide +kernel
theorem dX8_laysStrips_22 : decode cX8_laysStrips 22 = .ok (.istore 8, 2) := by decide +kernel
theorem dX8_laysStrips_24 : decode cX8_laysStrips 24 = .ok (.iload 8, 2) := by decide +kernel
theorem dX8_laysStrips_26 : decode cX8_laysStrips 26 = .ok (.aload_n 0, 1) := by decide +kernel
theorem dX8_laysStrips_27 : decode cX8_laysStrips 27 = .ok (.getfield 96, 3) := by decide +kernel
theorem dX8_laysStrips_30 : decode cX8_laysStrips 30 = .ok (.if_icmp .ge 66, 3) := by decide +kernel
theorem dX8_laysStrips_33 : decode cX8_laysStrips 33 = .ok (.aload_n 0, 1) := by decide +kernel
theorem dX8_laysStrips_34 : decode cX8_laysStrips 34 = .ok (.getfield 47, 3) := by decide +kernel
theorem dX8_laysStrips_37 : decode cX8_laysStrips 37 = .ok (.iload 7, 2) := by decide +kernel
theorem dX8_laysStrips_39 : decode cX8_laysStrips 39 = .ok (.iconst 1, 1) := by decide +kernel
theorem dX8_laysStrips_40 : decode cX8_laysStrips 40 = .ok (.isub, 1) := by decide +kernel
theorem dX8_laysStrips_41 : decode cX8_laysStrips 41 = .ok (.iaload, 1) := by decide +kernel
theorem dX8_laysStrips_42 : decode cX8_laysStrips 42 = .ok (.istore 9, 2) := by decide +kernel
theorem dX8_laysStrips_44 : decode cX8_laysStrips 44 = .ok (.aload_n 0, 1) := by decide +kernel
theorem dX8_laysStrips_45 : decode cX8_laysStrips 45 = .ok (.iload 9, 2) := by decide +kernel
theorem dX8_laysStrips_47 : decode cX8_laysStrips 47 = .ok (.iload 8, 2) := by decide +kernel
theorem dX8_laysStrips_49 : decode cX8_laysStrips 49 = .ok (.iconst 1, 1) := by decide +kernel
theorem dX8_laysStrips_50 : decode cX8_laysStrips 50 = .ok (.iadd, 1) := by decide +kernel
theorem dX8_laysStrips_51 : decode cX8_laysStrips 51 = .ok (.iload 9, 2) := by decide +kernel
theorem dX8_laysStrips_53 : decode cX8_laysStrips 53 = .ok (.isub, 1) := by decide +kernel
theorem dX8_laysStrips_54 : decode cX8_laysStrips 54 = .ok (.fload 6, 2) := by decide +kernel
theorem dX8_laysStrips_56 : decode cX8_laysStrips 56 = .ok (.iload_n 3, 1) := by decide +kernel
theorem dX8_laysStrips_57 : decode cX8_laysStrips 57 = .ok (.invokevirtual 117, 3) := by decide +kernel
theorem dX8_laysStrips_60 : decode cX8_laysStrips 60 = .ok (.aload_n 0, 1) := by decide +kernel
theorem dX8_laysStrips_61 : decode cX8_laysStrips 61 = .ok (.iload 9, 2) := by decide +kernel
theorem dX8_laysStrips_63 : decode cX8_laysStrips 63 = .ok (.iload 8, 2) := by decide +kernel
theorem dX8_laysStrips_65 : decode cX8_laysStrips 65 = .ok (.iload 9, 2) := by decide +kernel
theorem dX8_laysStrips_67 : decode cX8_laysStrips 67 = .ok (.isub, 1) := by decide +kernel
theorem dX8_laysStrips_68 : decode cX8_laysStrips 68 = .ok (.fload 6, 2) := by decide +kernel
theorem dX8_laysStrips_70 : decode cX8_laysStrips 70 = .ok (.iload_n 3, 1) := by decide +kernel
theorem dX8_laysStrips_71 : decode cX8_laysStrips 71 = .ok (.invokevirtual 117, 3) := by decide +kernel
theorem dX8_laysStrips_74 : decode cX8_laysStrips 74 = .ok (.fcmp .g, 1) := by decide +kernel
theorem dX8_laysStrips_75 : decode cX8_laysStrips 75 = .ok (.ifCond .le 15, 3) := by decide +kernel
theorem dX8_laysStrips_78 : decode cX8_laysStrips 78 = .ok (.aload_n 0, 1) := by decide +kernel
theorem dX8_laysStrips_79 : decode cX8_laysStrips 79 = .ok (.getfield 47, 3) := by decide +kernel
theorem dX8_laysStrips_82 : decode cX8_laysStrips 82 = .ok (.iload 7, 2) := by decide +kernel
theorem dX8_laysStrips_84 : decode cX8_laysStrips 84 = .ok (.iload 8, 2) := by decide +kernel
theorem dX8_laysStrips_86 : decode cX8_laysStrips 86 = .ok (.iastore, 1) := by decide +kernel
theorem dX8_laysStrips_87 : decode cX8_laysStrips 87 = .ok (.iinc 7 1, 3) := by decide +kernel
theorem dX8_laysStrips_90 : decode cX8_laysStrips 90 = .ok (.iinc 8 1, 3) := by decide +kernel
theorem dX8_laysStrips_93 : decode cX8_laysStrips 93 = .ok (.goto (-69), 3) := by decide +kernel
theorem dX8_laysStrips_96 : decode cX8_laysStrips 96 = .ok (.aload_n 0, 1) := by decide +kernel
theorem dX8_laysStrips_97 : decode cX8_laysStrips 97 = .ok (.getfield 47, 3) := by decide +kernel
theorem dX8_laysStrips_100 : decode cX8_laysStrips 100 = .ok (.iload 7, 2) := by decide +kernel
theorem dX8_laysStrips_102 : decode cX8_laysStrips 102 = .ok (.aload_n 0, 1) := by decide +kernel
theorem dX8_laysStrips_103 : decode cX8_laysStrips 103 = .ok (.getfield 96, 3) := by decide +kernel
theorem dX8_laysStrips_106 : decode cX8_laysStrips 106 = .ok (.iastore, 1) := by decide +kernel
theorem dX8_laysStrips_107 : decode cX8_laysStrips 107 = .ok (.iconst 0, 1) := by decide +kernel
theorem dX8_laysStrips_108 : decode cX8_laysStrips 108 = .ok (.istore 8, 2) := by decide +kernel
theorem dX8_laysStrips_110 : decode cX8_laysStrips 110 = .ok (.iload 8, 2) := by decide +kernel
theorem dX8_laysStrips_112 : decode cX8_laysStrips 112 = .ok (.iload 7, 2) := by decide +kernel
theorem dX8_laysStrips_114 : decode cX8_laysStrips 114 = .ok (.if_icmp .ge 44, 3) := by decide +kernel
theorem dX8_laysStrips_117 : decode cX8_laysStrips 117 = .ok (.aload_n 0, 1) := by decide +kernel
theorem dX8_laysStrips_118 : decode cX8_laysStrips 118 = .ok (.getfield 19, 3) := by decide +kernel
theorem dX8_laysStrips_121 : decode cX8_laysStrips 121 = .ok (.iload 8, 2) := by decide +kernel
theorem dX8_laysStrips_123 : decode cX8_laysStrips 123 = .ok (.aload_n 0, 1) := by decide +kernel
theorem dX8_laysStrips_124 : decode cX8_laysStrips 124 = .ok (.aload_n 0, 1) := by decide +kernel
theorem dX8_laysStrips_125 : decode cX8_laysStrips 125 = .ok (.getfield 47, 3) := by decide +kernel
theorem dX8_laysStrips_128 : decode cX8_laysStrips 128 = .ok (.iload 8, 2) := by decide +kernel
theorem dX8_laysStrips_130 : decode cX8_laysStrips 130 = .ok (.iaload, 1) := by decide +kernel
theorem dX8_laysStrips_131 : decode cX8_laysStrips 131 = .ok (.aload_n 0, 1) := by decide +kernel
theorem dX8_laysStrips_132 : decode cX8_laysStrips 132 = .ok (.getfield 47, 3) := by decide +kernel
theorem dX8_laysStrips_135 : decode cX8_laysStrips 135 = .ok (.iload 8, 2) := by decide +kernel
theorem dX8_laysStrips_137 : decode cX8_laysStrips 137 = .ok (.iconst 1, 1) := by decide +kernel
theorem dX8_laysStrips_138 : decode cX8_laysStrips 138 = .ok (.iadd, 1) := by decide +kernel
theorem dX8_laysStrips_139 : decode cX8_laysStrips 139 = .ok (.iaload, 1) := by decide +kernel
theorem dX8_laysStrips_140 : decode cX8_laysStrips 140 = .ok (.aload_n 0, 1) := by decide +kernel
theorem dX8_laysStrips_141 : decode cX8_laysStrips 141 = .ok (.getfield 47, 3) := by decide +kernel
theorem dX8_laysStrips_144 : decode cX8_laysStrips 144 = .ok (.iload 8, 2) := by decide +kernel
theorem dX8_laysStrips_146 : decode cX8_laysStrips 146 = .ok (.iaload, 1) := by decide +kernel
theorem dX8_laysStrips_147 : decode cX8_laysStrips 147 = .ok (.isub, 1) := by decide +kernel
theorem dX8_laysStrips_148 : decode cX8_laysStrips 148 = .ok (.invokevirtual 110, 3) := by decide +kernel
theorem dX8_laysStrips_151 : decode cX8_laysStrips 151 = .ok (.iastore, 1) := by decide +kernel
theorem dX8_laysStrips_152 : decode cX8_laysStrips 152 = .ok (.iinc 8 1, 3) := by decide +kernel
theorem dX8_laysStrips_155 : decode cX8_laysStrips 155 = .ok (.goto (-45), 3) := by decide +kernel
theorem dX8_laysStrips_158 : decode cX8_laysStrips 158 = .ok (.aload_n 0, 1) := by decide +kernel
theorem dX8_laysStrips_159 : decode cX8_laysStrips 159 = .ok (.iload 4, 2) := by decide +kernel
theorem dX8_laysStrips_161 : decode cX8_laysStrips 161 = .ok (.iload 7, 2) := by decide +kernel
theorem dX8_laysStrips_163 : decode cX8_laysStrips 163 = .ok (.invokevirtual 103, 3) := by decide +kernel
theorem dX8_laysStrips_166 : decode cX8_laysStrips 166 = .ok (.iconst 0, 1) := by decide +kernel
theorem dX8_laysStrips_167 : decode cX8_laysStrips 167 = .ok (.istore 8, 2) := by decide +kernel
theorem dX8_laysStrips_169 : decode cX8_laysStrips 169 = .ok (.iload 8, 2) := by decide +kernel
theorem dX8_laysStrips_171 : decode cX8_laysStrips 171 = .ok (.iload 7, 2) := by decide +kernel
theorem dX8_laysStrips_173 : decode cX8_laysStrips 173 = .ok (.if_icmp .ge 23, 3) := by decide +kernel
theorem dX8_laysStrips_176 : decode cX8_laysStrips 176 = .ok (.aload_n 0, 1) := by decide +kernel
theorem dX8_laysStrips_177 : decode cX8_laysStrips 177 = .ok (.getfield 50, 3) := by decide +kernel
theorem dX8_laysStrips_180 : decode cX8_laysStrips 180 = .ok (.iload 8, 2) := by decide +kernel
theorem dX8_laysStrips_182 : decode cX8_laysStrips 182 = .ok (.aload_n 0, 1) := by decide +kernel
theorem dX8_laysStrips_183 : decode cX8_laysStrips 183 = .ok (.getfield 22, 3) := by decide +kernel
theorem dX8_laysStrips_186 : decode cX8_laysStrips 186 = .ok (.iload 8, 2) := by decide +kernel
theorem dX8_laysStrips_188 : decode cX8_laysStrips 188 = .ok (.iaload, 1) := by decide +kernel
theorem dX8_laysStrips_189 : decode cX8_laysStrips 189 = .ok (.iastore, 1) := by decide +kernel
theorem dX8_laysStrips_190 : decode cX8_laysStrips 190 = .ok (.iinc 8 1, 3) := by decide +kernel
theorem dX8_laysStrips_193 : decode cX8_laysStrips 193 = .ok (.goto (-24), 3) := by decide +kernel
theorem dX8_laysStrips_196 : decode cX8_laysStrips 196 = .ok (.iload_n 2, 1) := by decide +kernel
theorem dX8_laysStrips_197 : decode cX8_laysStrips 197 = .ok (.istore 8, 2) := by decide +kernel
theorem dX8_laysStrips_199 : decode cX8_laysStrips 199 = .ok (.iconst 0, 1) := by decide +kernel
theorem dX8_laysStrips_200 : decode cX8_laysStrips 200 = .ok (.istore 9, 2) := by decide +kernel
theorem dX8_laysStrips_202 : decode cX8_laysStrips 202 = .ok (.iload 9, 2) := by decide +kernel
theorem dX8_laysStrips_204 : decode cX8_laysStrips 204 = .ok (.iload 7, 2) := by decide +kernel
theorem dX8_laysStrips_206 : decode cX8_laysStrips 206 = .ok (.if_icmp .ge 61, 3) := by decide +kernel
theorem dX8_laysStrips_209 : decode cX8_laysStrips 209 = .ok (.aload_n 0, 1) := by decide +kernel
theorem dX8_laysStrips_210 : decode cX8_laysStrips 210 = .ok (.aload_n 0, 1) := by decide +kernel
theorem dX8_laysStrips_211 : decode cX8_laysStrips 211 = .ok (.getfield 47, 3) := by decide +kernel
theorem dX8_laysStrips_214 : decode cX8_laysStrips 214 = .ok (.iload 9, 2) := by decide +kernel
theorem dX8_laysStrips_216 : decode cX8_laysStrips 216 = .ok (.iaload, 1) := by decide +kernel
theorem dX8_laysStrips_217 : decode cX8_laysStrips 217 = .ok (.aload_n 0, 1) := by decide +kernel
theorem dX8_laysStrips_218 : decode cX8_laysStrips 218 = .ok (.getfield 47, 3) := by decide +kernel
theorem dX8_laysStrips_221 : decode cX8_laysStrips 221 = .ok (.iload 9, 2) := by decide +kernel
theorem dX8_laysStrips_223 : decode cX8_laysStrips 223 = .ok (.iconst 1, 1) := by decide +kernel
theorem dX8_laysStrips_224 : decode cX8_laysStrips 224 = .ok (.iadd, 1) := by decide +kernel
theorem dX8_laysStrips_225 : decode cX8_laysStrips 225 = .ok (.iaload, 1) := by decide +kernel
theorem dX8_laysStrips_226 : decode cX8_laysStrips 226 = .ok (.aload_n 0, 1) := by decide +kernel
theorem dX8_laysStrips_227 : decode cX8_laysStrips 227 = .ok (.getfield 47, 3) := by decide +kernel
theorem dX8_laysStrips_230 : decode cX8_laysStrips 230 = .ok (.iload 9, 2) := by decide +kernel
theorem dX8_laysStrips_232 : decode cX8_laysStrips 232 = .ok (.iaload, 1) := by decide +kernel
theorem dX8_laysStrips_233 : decode cX8_laysStrips 233 = .ok (.isub, 1) := by decide +kernel
theorem dX8_laysStrips_234 : decode cX8_laysStrips 234 = .ok (.iload_n 1, 1) := by decide +kernel
theorem dX8_laysStrips_235 : decode cX8_laysStrips 235 = .ok (.iload 8, 2) := by decide +kernel
theorem dX8_laysStrips_237 : decode cX8_laysStrips 237 = .ok (.iload_n 3, 1) := by decide +kernel
theorem dX8_laysStrips_238 : decode cX8_laysStrips 238 = .ok (.aload_n 0, 1) := by decide +kernel
theorem dX8_laysStrips_239 : decode cX8_laysStrips 239 = .ok (.getfield 50, 3) := by decide +kernel
theorem dX8_laysStrips_242 : decode cX8_laysStrips 242 = .ok (.iload 9, 2) := by decide +kernel
theorem dX8_laysStrips_244 : decode cX8_laysStrips 244 = .ok (.iaload, 1) := by decide +kernel
theorem dX8_laysStrips_245 : decode cX8_laysStrips 245 = .ok (.iconst 1, 1) := by decide +kernel
theorem dX8_laysStrips_246 : decode cX8_laysStrips 246 = .ok (.invokevirtual 121, 3) := by decide +kernel
theorem dX8_laysStrips_249 : decode cX8_laysStrips 249 = .ok (.iload 8, 2) := by decide +kernel
theorem dX8_laysStrips_251 : decode cX8_laysStrips 251 = .ok (.aload_n 0, 1) := by decide +kernel
theorem dX8_laysStrips_252 : decode cX8_laysStrips 252 = .ok (.getfield 50, 3) := by decide +kernel
theorem dX8_laysStrips_255 : decode cX8_laysStrips 255 = .ok (.iload 9, 2) := by decide +kernel
theorem dX8_laysStrips_257 : decode cX8_laysStrips 257 = .ok (.iaload, 1) := by decide +kernel
theorem dX8_laysStrips_258 : decode cX8_laysStrips 258 = .ok (.iadd, 1) := by decide +kernel
theorem dX8_laysStrips_259 : decode cX8_laysStrips 259 = .ok (.istore 8, 2) := by decide +kernel
theorem dX8_laysStrips_261 : decode cX8_laysStrips 261 = .ok (.iinc 9 1, 3) := by decide +kernel
theorem dX8_laysStrips_264 : decode cX8_laysStrips 264 = .ok (.goto (-62), 3) := by decide +kernel
theorem dX8_laysStrips_267 : decode cX8_laysStrips 267 = .ok (.return_, 1) := by decide +kernel
theorem dX8_sorts_0 : decode cX8_sorts 0 = .ok (.iconst 1, 1) := by decide +kernel
theorem dX8_sorts_1 : decode cX8_sorts 1 = .ok (.istore_n 1, 1) := by decide +kernel
theorem dX8_sorts_2 : decode cX8_sorts 2 = .ok (.iload_n 1, 1) := by decide +kernel
theorem dX8_sorts_3 : decode cX8_sorts 3 = .ok (.aload_n 0, 1) := by decide +kernel
theorem dX8_sorts_4 : decode cX8_sorts 4 = .ok (.getfield 96, 3) := by decide +kernel
theorem dX8_sorts_7 : decode cX8_sorts 7 = .ok (.if_icmp .ge 71, 3) := by decide +kernel
theorem dX8_sorts_10 : decode cX8_sorts 10 = .ok (.aload_n 0, 1) := by decide +kernel
theorem dX8_sorts_11 : decode cX8_sorts 11 = .ok (.getfield 44, 3) := by decide +kernel
theorem dX8_sorts_14 : decode cX8_sorts 14 = .ok (.iload_n 1, 1) := by decide +kernel
theorem dX8_sorts_15 : decode cX8_sorts 15 = .ok (.iaload, 1) := by decide +kernel
theorem dX8_sorts_16 : decode cX8_sorts 16 = .ok (.istore_n 2, 1) := by decide +kernel
theorem dX8_sorts_17 : decode cX8_sorts 17 = .ok (.iload_n 1, 1) := by decide +kernel
theorem dX8_sorts_18 : decode cX8_sorts 18 = .ok (.istore_n 3, 1) := by decide +kernel
theorem dX8_sorts_19 : decode cX8_sorts 19 = .ok (.iload_n 3, 1) := by decide +kernel
theorem dX8_sorts_20 : decode cX8_sorts 20 = .ok (.ifCond .le 45, 3) := by decide +kernel
theorem dX8_sorts_23 : decode cX8_sorts 23 = .ok (.aload_n 0, 1) := by decide +kernel
theorem dX8_sorts_24 : decode cX8_sorts 24 = .ok (.getfield 41, 3) := by decide +kernel
theorem dX8_sorts_27 : decode cX8_sorts 27 = .ok (.aload_n 0, 1) := by decide +kernel
theorem dX8_sorts_28 : decode cX8_sorts 28 = .ok (.getfield 44, 3) := by decide +kernel
theorem dX8_sorts_31 : decode cX8_sorts 31 = .ok (.iload_n 3, 1) := by decide +kernel
theorem dX8_sorts_32 : decode cX8_sorts 32 = .ok (.iconst 1, 1) := by decide +kernel
theorem dX8_sorts_33 : decode cX8_sorts 33 = .ok (.isub, 1) := by decide +kernel
theorem dX8_sorts_34 : decode cX8_sorts 34 = .ok (.iaload, 1) := by decide +kernel
theorem dX8_sorts_35 : decode cX8_sorts 35 = .ok (.iaload, 1) := by decide +kernel
theorem dX8_sorts_36 : decode cX8_sorts 36 = .ok (.aload_n 0, 1) := by decide +kernel
theorem dX8_sorts_37 : decode cX8_sorts 37 = .ok (.getfield 41, 3) := by decide +kernel
theorem dX8_sorts_40 : decode cX8_sorts 40 = .ok (.iload_n 2, 1) := by decide +kernel
theorem dX8_sorts_41 : decode cX8_sorts 41 = .ok (.iaload, 1) := by decide +kernel
theorem dX8_sorts_42 : decode cX8_sorts 42 = .ok (.if_icmp .ge 23, 3) := by decide +kernel
theorem dX8_sorts_45 : decode cX8_sorts 45 = .ok (.aload_n 0, 1) := by decide +kernel
theorem dX8_sorts_46 : decode cX8_sorts 46 = .ok (.getfield 44, 3) := by decide +kernel
theorem dX8_sorts_49 : decode cX8_sorts 49 = .ok (.iload_n 3, 1) := by decide +kernel
theorem dX8_sorts_50 : decode cX8_sorts 50 = .ok (.aload_n 0, 1) := by decide +kernel
theorem dX8_sorts_51 : decode cX8_sorts 51 = .ok (.getfield 44, 3) := by decide +kernel
theorem dX8_sorts_54 : decode cX8_sorts 54 = .ok (.iload_n 3, 1) := by decide +kernel
theorem dX8_sorts_55 : decode cX8_sorts 55 = .ok (.iconst 1, 1) := by decide +kernel
theorem dX8_sorts_56 : decode cX8_sorts 56 = .ok (.isub, 1) := by decide +kernel
theorem dX8_sorts_57 : decode cX8_sorts 57 = .ok (.iaload, 1) := by decide +kernel
theorem dX8_sorts_58 : decode cX8_sorts 58 = .ok (.iastore, 1) := by decide +kernel
theorem dX8_sorts_59 : decode cX8_sorts 59 = .ok (.iinc 3 (-1), 3) := by decide +kernel
theorem dX8_sorts_62 : decode cX8_sorts 62 = .ok (.goto (-43), 3) := by decide +kernel
theorem dX8_sorts_65 : decode cX8_sorts 65 = .ok (.aload_n 0, 1) := by decide +kernel
theorem dX8_sorts_66 : decode cX8_sorts 66 = .ok (.getfield 44, 3) := by decide +kernel
theorem dX8_sorts_69 : decode cX8_sorts 69 = .ok (.iload_n 3, 1) := by decide +kernel
theorem dX8_sorts_70 : decode cX8_sorts 70 = .ok (.iload_n 2, 1) := by decide +kernel
theorem dX8_sorts_71 : decode cX8_sorts 71 = .ok (.iastore, 1) := by decide +kernel
theorem dX8_sorts_72 : decode cX8_sorts 72 = .ok (.iinc 1 1, 3) := by decide +kernel
theorem dX8_sorts_75 : decode cX8_sorts 75 = .ok (.goto (-73), 3) := by decide +kernel
theorem dX8_sorts_78 : decode cX8_sorts 78 = .ok (.return_, 1) := by decide +kernel
set_option maxRecDepth 20000 in
theorem ggX8_rowOf_X8_worst : GoodIn wsX8_rowOf wsX8_worst := goodIn_r _ [6, 7, 8, 9, 10, 5, 11, 12, 13, 14, 15, 16, 17, 18, 19, 20, 21, 22, 23, 24, 25, 26, 27, 28, 29, 30, 31, 32, 33, 34] (by decide +kernel) (by decide +kernel)
set_option maxRecDepth 20000 in
theorem gX8_rowOf_X8_worst : GoodIn wsX8_rowOf (wsV RX8 125 RX8 yX8_worst wsX8_worst) := goodIn_app (goodIn_of _ (by decide +kernel)) ggX8_rowOf_X8_worst
theorem dX8_rowOf_0 : decode cX8_rowOf 0 = .ok (.iconst 1, 1) := by decide +kernel
theorem dX8_rowOf_1 : decode cX8_rowOf 1 = .ok (.istore 4, 2) := by decide +kernel
theorem dX8_rowOf_3 : decode cX8_rowOf 3 = .ok (.iload_n 1, 1) := by decide +kernel
theorem dX8_rowOf_4 : decode cX8_rowOf 4 = .ok (.iload 4, 2) := by decide +kernel
theorem dX8_rowOf_6 : decode cX8_rowOf 6 = .ok (.iadd, 1) := by decide +kernel
theorem dX8_rowOf_7 : decode cX8_rowOf 7 = .ok (.aload_n 0, 1) := by decide +kernel
theorem dX8_rowOf_8 : decode cX8_rowOf 8 = .ok (.getfield 96, 3) := by decide +kernel
theorem dX8_rowOf_11 : decode cX8_rowOf 11 = .ok (.if_icmp .ge 33, 3) := by decide +kernel
theorem dX8_rowOf_14 : decode cX8_rowOf 14 = .ok (.aload_n 0, 1) := by decide +kernel
theorem dX8_rowOf_15 : decode cX8_rowOf 15 = .ok (.iload_n 1, 1) := by decide +kernel
theorem dX8_rowOf_16 : decode cX8_rowOf 16 = .ok (.iload 4, 2) := by decide +kernel
theorem dX8_rowOf_18 : decode cX8_rowOf 18 = .ok (.iconst 1, 1) := by decide +kernel
theorem dX8_rowOf_19 : decode cX8_rowOf 19 = .ok (.iadd, 1) := by decide +kernel
theorem dX8_rowOf_20 : decode cX8_rowOf 20 = .ok (.fload_n 2, 1) := by decide +kernel
theorem dX8_rowOf_21 : decode cX8_rowOf 21 = .ok (.iload_n 3, 1) := by decide +kernel
theorem dX8_rowOf_22 : decode cX8_rowOf 22 = .ok (.invokevirtual 125, 3) := by decide +kernel
theorem dX8_rowOf_25 : decode cX8_rowOf 25 = .ok (.aload_n 0, 1) := by decide +kernel
theorem dX8_rowOf_26 : decode cX8_rowOf 26 = .ok (.iload_n 1, 1) := by decide +kernel
theorem dX8_rowOf_27 : decode cX8_rowOf 27 = .ok (.iload 4, 2) := by decide +kernel
theorem dX8_rowOf_29 : decode cX8_rowOf 29 = .ok (.fload_n 2, 1) := by decide +kernel
theorem dX8_rowOf_30 : decode cX8_rowOf 30 = .ok (.iload_n 3, 1) := by decide +kernel
theorem dX8_rowOf_31 : decode cX8_rowOf 31 = .ok (.invokevirtual 125, 3) := by decide +kernel
theorem dX8_rowOf_34 : decode cX8_rowOf 34 = .ok (.fcmp .g, 1) := by decide +kernel
theorem dX8_rowOf_35 : decode cX8_rowOf 35 = .ok (.ifCond .gt 9, 3) := by decide +kernel
theorem dX8_rowOf_38 : decode cX8_rowOf 38 = .ok (.iinc 4 1, 3) := by decide +kernel
theorem dX8_rowOf_41 : decode cX8_rowOf 41 = .ok (.goto (-38), 3) := by decide +kernel
theorem dX8_rowOf_44 : decode cX8_rowOf 44 = .ok (.iload 4, 2) := by decide +kernel
theorem dX8_rowOf_46 : decode cX8_rowOf 46 = .ok (.ireturn, 1) := by decide +kernel
set_option maxRecDepth 20000 in
theorem ggX8_laysSquares_X8_sorts : GoodIn wsX8_laysSquares wsX8_sorts := goodIn_r _ [7, 1, 2, 8, 47, 48, 49, 50, 51, 52, 53, 54, 55, 56, 57, 58, 59, 60, 61, 62, 63, 64] (by decide +kernel) (by decide +kernel)
set_option maxRecDepth 20000 in
theorem gX8_laysSquares_X8_sorts : GoodIn wsX8_laysSquares (wsV RX8 128 RX8 yX8_sorts wsX8_sorts) := goodIn_app (goodIn_of _ (by decide +kernel)) ggX8_laysSquares_X8_sorts
set_option maxRecDepth 20000 in
theorem ggX8_laysSquares_X8_puts : GoodIn wsX8_laysSquares wsX8_puts := goodIn_r _ [12, 13, 14, 15, 16, 47, 48, 49, 50, 51, 52, 53, 54, 55, 56, 57, 58, 59, 60, 61, 62, 63, 64] (by decide +kernel) (by decide +kernel)
set_option maxRecDepth 20000 in
theorem gX8_laysSquares_X8_puts : GoodIn wsX8_laysSquares (wsV RX8 106 RX8 yX8_puts wsX8_puts) := goodIn_app (goodIn_of _ (by decide +kernel)) ggX8_laysSquares_X8_puts
set_option maxRecDepth 20000 in
theorem ggX8_laysSquares_X8_sumOf : GoodIn wsX8_laysSquares wsX8_sumOf := goodIn_r _ [20, 8, 2, 47, 48, 49, 50, 51, 52, 53, 54, 55, 56, 57, 58, 59, 60, 61, 62, 63, 64] (by decide +kernel) (by decide +kernel)
set_option maxRecDepth 20000 in
theorem gX8_laysSquares_X8_sumOf : GoodIn wsX8_laysSquares (wsV RX8 110 RX8 yX8_sumOf wsX8_sumOf) := goodIn_app (goodIn_of _ (by decide +kernel)) ggX8_laysSquares_X8_sumOf
set_option maxRecDepth 20000 in
theorem ggX8_laysSquares_X8_rowOf : GoodIn wsX8_laysSquares wsX8_rowOf := goodIn_r _ [24, 1, 25, 26, 27, 6, 28, 2, 29, 30, 31, 32, 8, 17, 18, 19, 20, 47, 48, 49, 50, 51, 52, 53, 54, 55, 56, 57, 58, 59, 60, 61, 62, 63, 64] (by decide +kernel) (by decide +kernel)
set_option maxRecDepth 20000 in
theorem gX8_laysSquares_X8_rowOf : GoodIn wsX8_laysSquares (wsV RX8 131 RX8 yX8_rowOf wsX8_rowOf) := goodIn_app (goodIn_of _ (by decide +kernel)) ggX8_laysSquares_X8_rowOf
set_option maxRecDepth 20000 in
theorem ggX8_laysSquares_X8_laysRow : GoodIn wsX8_laysSquares wsX8_laysRow := goodIn_r _ [36, 37, 2, 38, 39, 40, 6, 41, 42, 8, 43, 44, 45, 46, 9, 10, 11, 12, 13, 14, 15, 16, 47, 48, 49, 50, 51, 52, 53, 54, 55, 56, 57, 58, 59, 60, 61, 62, 63, 64] (by decide +kernel) (by decide +kernel)
set_option maxRecDepth 20000 in
theorem gX8_laysSquares_X8_laysRow : GoodIn wsX8_laysSquares (wsV RX8 121 RX8 yX8_laysRow wsX8_laysRow) := goodIn_app (goodIn_of _ (by decide +kernel)) ggX8_laysSquares_X8_laysRow
theorem dX8_laysSquares_0 : decode cX8_laysSquares 0 = .ok (.aload_n 0, 1) := by decide +kernel
theorem dX8_laysSquares_1 : decode cX8_laysSquares 1 = .ok (.invokevirtual 128, 3) := by decide +kernel
theorem dX8_laysSquares_4 : decode cX8_laysSquares 4 = .ok (.iload_n 1, 1) := by decide +kernel
theorem dX8_laysSquares_5 : decode cX8_laysSquares 5 = .ok (.istore 5, 2) := by decide +kernel
theorem dX8_laysSquares_7 : decode cX8_laysSquares 7 = .ok (.iload_n 2, 1) := by decide +kernel
theorem dX8_laysSquares_8 : decode cX8_laysSquares 8 = .ok (.istore 6, 2) := by decide +kernel
theorem dX8_laysSquares_10 : decode cX8_laysSquares 10 = .ok (.iload_n 3, 1) := by decide +kernel
theorem dX8_laysSquares_11 : decode cX8_laysSquares 11 = .ok (.istore 7, 2) := by decide +kernel
theorem dX8_laysSquares_13 : decode cX8_laysSquares 13 = .ok (.iload 4, 2) := by decide +kernel
theorem dX8_laysSquares_15 : decode cX8_laysSquares 15 = .ok (.istore 8, 2) := by decide +kernel
theorem dX8_laysSquares_17 : decode cX8_laysSquares 17 = .ok (.iconst 0, 1) := by decide +kernel
theorem dX8_laysSquares_18 : decode cX8_laysSquares 18 = .ok (.istore 9, 2) := by decide +kernel
theorem dX8_laysSquares_20 : decode cX8_laysSquares 20 = .ok (.iload 9, 2) := by decide +kernel
theorem dX8_laysSquares_22 : decode cX8_laysSquares 22 = .ok (.aload_n 0, 1) := by decide +kernel
theorem dX8_laysSquares_23 : decode cX8_laysSquares 23 = .ok (.getfield 96, 3) := by decide +kernel
theorem dX8_laysSquares_26 : decode cX8_laysSquares 26 = .ok (.if_icmp .ge 273, 3) := by decide +kernel
theorem dX8_laysSquares_29 : decode cX8_laysSquares 29 = .ok (.iload 7, 2) := by decide +kernel
theorem dX8_laysSquares_31 : decode cX8_laysSquares 31 = .ok (.ifCond .eq 8, 3) := by decide +kernel
theorem dX8_laysSquares_34 : decode cX8_laysSquares 34 = .ok (.iload 8, 2) := by decide +kernel
theorem dX8_laysSquares_36 : decode cX8_laysSquares 36 = .ok (.ifCond .ne 26, 3) := by decide +kernel
theorem dX8_laysSquares_39 : decode cX8_laysSquares 39 = .ok (.aload_n 0, 1) := by decide +kernel
theorem dX8_laysSquares_40 : decode cX8_laysSquares 40 = .ok (.aload_n 0, 1) := by decide +kernel
theorem dX8_laysSquares_41 : decode cX8_laysSquares 41 = .ok (.getfield 44, 3) := by decide +kernel
theorem dX8_laysSquares_44 : decode cX8_laysSquares 44 = .ok (.iload 9, 2) := by decide +kernel
theorem dX8_laysSquares_46 : decode cX8_laysSquares 46 = .ok (.iaload, 1) := by decide +kernel
theorem dX8_laysSquares_47 : decode cX8_laysSquares 47 = .ok (.iload 5, 2) := by decide +kernel
theorem dX8_laysSquares_49 : decode cX8_laysSquares 49 = .ok (.iload 6, 2) := by decide +kernel
theorem dX8_laysSquares_51 : decode cX8_laysSquares 51 = .ok (.iconst 0, 1) := by decide +kernel
theorem dX8_laysSquares_52 : decode cX8_laysSquares 52 = .ok (.iconst 0, 1) := by decide +kernel
theorem dX8_laysSquares_53 : decode cX8_laysSquares 53 = .ok (.invokevirtual 106, 3) := by decide +kernel
theorem dX8_laysSquares_56 : decode cX8_laysSquares 56 = .ok (.iinc 9 1, 3) := by decide +kernel
theorem dX8_laysSquares_59 : decode cX8_laysSquares 59 = .ok (.goto (-39), 3) := by decide +kernel
theorem dX8_laysSquares_62 : decode cX8_laysSquares 62 = .ok (.aload_n 0, 1) := by decide +kernel
theorem dX8_laysSquares_63 : decode cX8_laysSquares 63 = .ok (.iload 9, 2) := by decide +kernel
theorem dX8_laysSquares_65 : decode cX8_laysSquares 65 = .ok (.aload_n 0, 1) := by decide +kernel
theorem dX8_laysSquares_66 : decode cX8_laysSquares 66 = .ok (.getfield 96, 3) := by decide +kernel
theorem dX8_laysSquares_69 : decode cX8_laysSquares 69 = .ok (.iload 9, 2) := by decide +kernel
theorem dX8_laysSquares_71 : decode cX8_laysSquares 71 = .ok (.isub, 1) := by decide +kernel
theorem dX8_laysSquares_72 : decode cX8_laysSquares 72 = .ok (.invokevirtual 110, 3) := by decide +kernel
theorem dX8_laysSquares_75 : decode cX8_laysSquares 75 = .ok (.istore 10, 2) := by decide +kernel
theorem dX8_laysSquares_77 : decode cX8_laysSquares 77 = .ok (.iload 8, 2) := by decide +kernel
theorem dX8_laysSquares_79 : decode cX8_laysSquares 79 = .ok (.iload 7, 2) := by decide +kernel
theorem dX8_laysSquares_81 : decode cX8_laysSquares 81 = .ok (.if_icmp .gt 7, 3) := by decide +kernel
theorem dX8_laysSquares_84 : decode cX8_laysSquares 84 = .ok (.iconst 1, 1) := by decide +kernel
theorem dX8_laysSquares_85 : decode cX8_laysSquares 85 = .ok (.goto 4, 3) := by decide +kernel
theorem dX8_laysSquares_88 : decode cX8_laysSquares 88 = .ok (.iconst 0, 1) := by decide +kernel
theorem dX8_laysSquares_89 : decode cX8_laysSquares 89 = .ok (.istore 11, 2) := by decide +kernel
theorem dX8_laysSquares_91 : decode cX8_laysSquares 91 = .ok (.iload 11, 2) := by decide +kernel
theorem dX8_laysSquares_93 : decode cX8_laysSquares 93 = .ok (.ifCond .eq 8, 3) := by decide +kernel
theorem dX8_laysSquares_96 : decode cX8_laysSquares 96 = .ok (.iload 8, 2) := by decide +kernel
theorem dX8_laysSquares_98 : decode cX8_laysSquares 98 = .ok (.goto 5, 3) := by decide +kernel
theorem dX8_laysSquares_101 : decode cX8_laysSquares 101 = .ok (.iload 7, 2) := by decide +kernel
theorem dX8_laysSquares_103 : decode cX8_laysSquares 103 = .ok (.istore 12, 2) := by decide +kernel
theorem dX8_laysSquares_105 : decode cX8_laysSquares 105 = .ok (.iload 11, 2) := by decide +kernel
theorem dX8_laysSquares_107 : decode cX8_laysSquares 107 = .ok (.ifCond .eq 8, 3) := by decide +kernel
theorem dX8_laysSquares_110 : decode cX8_laysSquares 110 = .ok (.iload 7, 2) := by decide +kernel
theorem dX8_laysSquares_112 : decode cX8_laysSquares 112 = .ok (.goto 5, 3) := by decide +kernel
theorem dX8_laysSquares_115 : decode cX8_laysSquares 115 = .ok (.iload 8, 2) := by decide +kernel
theorem dX8_laysSquares_117 : decode cX8_laysSquares 117 = .ok (.istore 13, 2) := by decide +kernel
theorem dX8_laysSquares_119 : decode cX8_laysSquares 119 = .ok (.aload_n 0, 1) := by decide +kernel
theorem dX8_laysSquares_120 : decode cX8_laysSquares 120 = .ok (.iload 9, 2) := by decide +kernel
theorem dX8_laysSquares_122 : decode cX8_laysSquares 122 = .ok (.iload 7, 2) := by decide +kernel
theorem dX8_laysSquares_124 : decode cX8_laysSquares 124 = .ok (.iload 8, 2) := by decide +kernel
theorem dX8_laysSquares_126 : decode cX8_laysSquares 126 = .ok (.imul, 1) := by decide +kernel
theorem dX8_laysSquares_127 : decode cX8_laysSquares 127 = .ok (.i2f, 1) := by decide +kernel
theorem dX8_laysSquares_128 : decode cX8_laysSquares 128 = .ok (.iload 10, 2) := by decide +kernel
theorem dX8_laysSquares_130 : decode cX8_laysSquares 130 = .ok (.i2f, 1) := by decide +kernel
theorem dX8_laysSquares_131 : decode cX8_laysSquares 131 = .ok (.fdiv, 1) := by decide +kernel
theorem dX8_laysSquares_132 : decode cX8_laysSquares 132 = .ok (.iload 12, 2) := by decide +kernel
theorem dX8_laysSquares_134 : decode cX8_laysSquares 134 = .ok (.invokevirtual 131, 3) := by decide +kernel
theorem dX8_laysSquares_137 : decode cX8_laysSquares 137 = .ok (.istore 14, 2) := by decide +kernel
theorem dX8_laysSquares_139 : decode cX8_laysSquares 139 = .ok (.iload 9, 2) := by decide +kernel
theorem dX8_laysSquares_141 : decode cX8_laysSquares 141 = .ok (.iload 14, 2) := by decide +kernel
theorem dX8_laysSquares_143 : decode cX8_laysSquares 143 = .ok (.iadd, 1) := by decide +kernel
theorem dX8_laysSquares_144 : decode cX8_laysSquares 144 = .ok (.aload_n 0, 1) := by decide +kernel
theorem dX8_laysSquares_145 : decode cX8_laysSquares 145 = .ok (.getfield 96, 3) := by decide +kernel
theorem dX8_laysSquares_148 : decode cX8_laysSquares 148 = .ok (.if_icmp .ne 8, 3) := by decide +kernel
theorem dX8_laysSquares_151 : decode cX8_laysSquares 151 = .ok (.iload 13, 2) := by decide +kernel
theorem dX8_laysSquares_153 : decode cX8_laysSquares 153 = .ok (.goto 24, 3) := by decide +kernel
theorem dX8_laysSquares_156 : decode cX8_laysSquares 156 = .ok (.iconst 2, 1) := by decide +kernel
theorem dX8_laysSquares_157 : decode cX8_laysSquares 157 = .ok (.aload_n 0, 1) := by decide +kernel
theorem dX8_laysSquares_158 : decode cX8_laysSquares 158 = .ok (.iload 9, 2) := by decide +kernel
theorem dX8_laysSquares_160 : decode cX8_laysSquares 160 = .ok (.iload 14, 2) := by decide +kernel
theorem dX8_laysSquares_162 : decode cX8_laysSquares 162 = .ok (.invokevirtual 110, 3) := by decide +kernel
theorem dX8_laysSquares_165 : decode cX8_laysSquares 165 = .ok (.imul, 1) := by decide +kernel
theorem dX8_laysSquares_166 : decode cX8_laysSquares 166 = .ok (.iload 13, 2) := by decide +kernel
theorem dX8_laysSquares_168 : decode cX8_laysSquares 168 = .ok (.imul, 1) := by decide +kernel
theorem dX8_laysSquares_169 : decode cX8_laysSquares 169 = .ok (.iload 10, 2) := by decide +kernel
theorem dX8_laysSquares_171 : decode cX8_laysSquares 171 = .ok (.iadd, 1) := by decide +kernel
theorem dX8_laysSquares_172 : decode cX8_laysSquares 172 = .ok (.iconst 2, 1) := by decide +kernel
theorem dX8_laysSquares_173 : decode cX8_laysSquares 173 = .ok (.iload 10, 2) := by decide +kernel
theorem dX8_laysSquares_175 : decode cX8_laysSquares 175 = .ok (.imul, 1) := by decide +kernel
theorem dX8_laysSquares_176 : decode cX8_laysSquares 176 = .ok (.idiv, 1) := by decide +kernel
theorem dX8_laysSquares_177 : decode cX8_laysSquares 177 = .ok (.istore 15, 2) := by decide +kernel
theorem dX8_laysSquares_179 : decode cX8_laysSquares 179 = .ok (.aload_n 0, 1) := by decide +kernel
theorem dX8_laysSquares_180 : decode cX8_laysSquares 180 = .ok (.iload 9, 2) := by decide +kernel
theorem dX8_laysSquares_182 : decode cX8_laysSquares 182 = .ok (.iload 14, 2) := by decide +kernel
theorem dX8_laysSquares_184 : decode cX8_laysSquares 184 = .ok (.iload 5, 2) := by decide +kernel
theorem dX8_laysSquares_186 : decode cX8_laysSquares 186 = .ok (.iload 6, 2) := by decide +kernel
theorem dX8_laysSquares_188 : decode cX8_laysSquares 188 = .ok (.iload 11, 2) := by decide +kernel
theorem dX8_laysSquares_190 : decode cX8_laysSquares 190 = .ok (.ifCond .eq 8, 3) := by decide +kernel
theorem dX8_laysSquares_193 : decode cX8_laysSquares 193 = .ok (.iload 15, 2) := by decide +kernel
theorem dX8_laysSquares_195 : decode cX8_laysSquares 195 = .ok (.goto 5, 3) := by decide +kernel
theorem dX8_laysSquares_198 : decode cX8_laysSquares 198 = .ok (.iload 7, 2) := by decide +kernel
theorem dX8_laysSquares_200 : decode cX8_laysSquares 200 = .ok (.iload 11, 2) := by decide +kernel
theorem dX8_laysSquares_202 : decode cX8_laysSquares 202 = .ok (.ifCond .eq 8, 3) := by decide +kernel
theorem dX8_laysSquares_205 : decode cX8_laysSquares 205 = .ok (.iload 8, 2) := by decide +kernel
theorem dX8_laysSquares_207 : decode cX8_laysSquares 207 = .ok (.goto 5, 3) := by decide +kernel
theorem dX8_laysSquares_210 : decode cX8_laysSquares 210 = .ok (.iload 15, 2) := by decide +kernel
theorem dX8_laysSquares_212 : decode cX8_laysSquares 212 = .ok (.iload 11, 2) := by decide +kernel
theorem dX8_laysSquares_214 : decode cX8_laysSquares 214 = .ok (.ifCond .ne 7, 3) := by decide +kernel
theorem dX8_laysSquares_217 : decode cX8_laysSquares 217 = .ok (.iconst 1, 1) := by decide +kernel
theorem dX8_laysSquares_218 : decode cX8_laysSquares 218 = .ok (.goto 4, 3) := by decide +kernel
theorem dX8_laysSquares_221 : decode cX8_laysSquares 221 = .ok (.iconst 0, 1) := by decide +kernel
theorem dX8_laysSquares_222 : decode cX8_laysSquares 222 = .ok (.invokevirtual 121, 3) := by decide +kernel
theorem dX8_laysSquares_225 : decode cX8_laysSquares 225 = .ok (.iload 5, 2) := by decide +kernel
theorem dX8_laysSquares_227 : decode cX8_laysSquares 227 = .ok (.iload 11, 2) := by decide +kernel
theorem dX8_laysSquares_229 : decode cX8_laysSquares 229 = .ok (.ifCond .eq 8, 3) := by decide +kernel
theorem dX8_laysSquares_232 : decode cX8_laysSquares 232 = .ok (.iload 15, 2) := by decide +kernel
theorem dX8_laysSquares_234 : decode cX8_laysSquares 234 = .ok (.goto 4, 3) := by decide +kernel
theorem dX8_laysSquares_237 : decode cX8_laysSquares 237 = .ok (.iconst 0, 1) := by decide +kernel
theorem dX8_laysSquares_238 : decode cX8_laysSquares 238 = .ok (.iadd, 1) := by decide +kernel
theorem dX8_laysSquares_239 : decode cX8_laysSquares 239 = .ok (.istore 5, 2) := by decide +kernel
theorem dX8_laysSquares_241 : decode cX8_laysSquares 241 = .ok (.iload 6, 2) := by decide +kernel
theorem dX8_laysSquares_243 : decode cX8_laysSquares 243 = .ok (.iload 11, 2) := by decide +kernel
theorem dX8_laysSquares_245 : decode cX8_laysSquares 245 = .ok (.ifCond .eq 7, 3) := by decide +kernel
theorem dX8_laysSquares_248 : decode cX8_laysSquares 248 = .ok (.iconst 0, 1) := by decide +kernel
theorem dX8_laysSquares_249 : decode cX8_laysSquares 249 = .ok (.goto 5, 3) := by decide +kernel
theorem dX8_laysSquares_252 : decode cX8_laysSquares 252 = .ok (.iload 15, 2) := by decide +kernel
theorem dX8_laysSquares_254 : decode cX8_laysSquares 254 = .ok (.iadd, 1) := by decide +kernel
theorem dX8_laysSquares_255 : decode cX8_laysSquares 255 = .ok (.istore 6, 2) := by decide +kernel
theorem dX8_laysSquares_257 : decode cX8_laysSquares 257 = .ok (.iload 7, 2) := by decide +kernel
theorem dX8_laysSquares_259 : decode cX8_laysSquares 259 = .ok (.iload 11, 2) := by decide +kernel
theorem dX8_laysSquares_261 : decode cX8_laysSquares 261 = .ok (.ifCond .eq 8, 3) := by decide +kernel
theorem dX8_laysSquares_264 : decode cX8_laysSquares 264 = .ok (.iload 15, 2) := by decide +kernel
theorem dX8_laysSquares_266 : decode cX8_laysSquares 266 = .ok (.goto 4, 3) := by decide +kernel
theorem dX8_laysSquares_269 : decode cX8_laysSquares 269 = .ok (.iconst 0, 1) := by decide +kernel
theorem dX8_laysSquares_270 : decode cX8_laysSquares 270 = .ok (.isub, 1) := by decide +kernel
theorem dX8_laysSquares_271 : decode cX8_laysSquares 271 = .ok (.istore 7, 2) := by decide +kernel
theorem dX8_laysSquares_273 : decode cX8_laysSquares 273 = .ok (.iload 8, 2) := by decide +kernel
theorem dX8_laysSquares_275 : decode cX8_laysSquares 275 = .ok (.iload 11, 2) := by decide +kernel
theorem dX8_laysSquares_277 : decode cX8_laysSquares 277 = .ok (.ifCond .eq 7, 3) := by decide +kernel
theorem dX8_laysSquares_280 : decode cX8_laysSquares 280 = .ok (.iconst 0, 1) := by decide +kernel
theorem dX8_laysSquares_281 : decode cX8_laysSquares 281 = .ok (.goto 5, 3) := by decide +kernel
theorem dX8_laysSquares_284 : decode cX8_laysSquares 284 = .ok (.iload 15, 2) := by decide +kernel
theorem dX8_laysSquares_286 : decode cX8_laysSquares 286 = .ok (.isub, 1) := by decide +kernel
theorem dX8_laysSquares_287 : decode cX8_laysSquares 287 = .ok (.istore 8, 2) := by decide +kernel
theorem dX8_laysSquares_289 : decode cX8_laysSquares 289 = .ok (.iload 9, 2) := by decide +kernel
theorem dX8_laysSquares_291 : decode cX8_laysSquares 291 = .ok (.iload 14, 2) := by decide +kernel
theorem dX8_laysSquares_293 : decode cX8_laysSquares 293 = .ok (.iadd, 1) := by decide +kernel
theorem dX8_laysSquares_294 : decode cX8_laysSquares 294 = .ok (.istore 9, 2) := by decide +kernel
theorem dX8_laysSquares_296 : decode cX8_laysSquares 296 = .ok (.goto (-276), 3) := by decide +kernel
theorem dX8_laysSquares_299 : decode cX8_laysSquares 299 = .ok (.return_, 1) := by decide +kernel
set_option maxRecDepth 20000 in
theorem ggX8_laysUnder_X8_laysChildren : GoodIn wsX8_laysUnder wsX8_laysChildren := goodIn_r _ [14, 7, 2, 8, 67, 68, 69, 70, 71, 72, 73, 74, 75, 76, 77, 78, 79, 80, 81, 82, 83, 84] (by decide +kernel) (by decide +kernel)
set_option maxRecDepth 20000 in
theorem gX8_laysUnder_X8_laysChildren : GoodIn wsX8_laysUnder (wsV RX8 135 RX8 yX8_laysChildren wsX8_laysChildren) := goodIn_app (goodIn_of _ (by decide +kernel)) ggX8_laysUnder_X8_laysChildren
set_option maxRecDepth 20000 in
theorem ggX8_laysUnder_X8_puts : GoodIn wsX8_laysUnder wsX8_puts := goodIn_r _ [18, 1, 3, 4, 5, 67, 68, 69, 70, 71, 72, 73, 74, 75, 76, 77, 78, 79, 80, 81, 82, 83, 84] (by decide +kernel) (by decide +kernel)
set_option maxRecDepth 20000 in
theorem gX8_laysUnder_X8_puts : GoodIn wsX8_laysUnder (wsV RX8 106 RX8 yX8_puts wsX8_puts) := goodIn_app (goodIn_of _ (by decide +kernel)) ggX8_laysUnder_X8_puts
set_option maxRecDepth 20000 in
theorem ggX8_laysUnder_X8_laysRow : GoodIn wsX8_laysUnder wsX8_laysRow := goodIn_r _ [22, 23, 8, 24, 25, 26, 13, 27, 28, 9, 29, 30, 31, 32, 15, 16, 17, 18, 1, 3, 4, 5, 67, 68, 69, 70, 71, 72, 73, 74, 75, 76, 77, 78, 79, 80, 81, 82, 83, 84] (by decide +kernel) (by decide +kernel)
set_option maxRecDepth 20000 in
theorem gX8_laysUnder_X8_laysRow : GoodIn wsX8_laysUnder (wsV RX8 121 RX8 yX8_laysRow wsX8_laysRow) := goodIn_app (goodIn_of _ (by decide +kernel)) ggX8_laysUnder_X8_laysRow
set_option maxRecDepth 20000 in
theorem ggX8_laysUnder_X8_laysStrips : GoodIn wsX8_laysUnder wsX8_laysStrips := goodIn_r _ [36, 37, 7, 28, 38, 23, 39, 40, 41, 13, 42, 8, 43, 44, 45, 46, 9, 47, 48, 49, 50, 29, 30, 31, 32, 19, 20, 21, 22, 24, 25, 26, 27, 15, 16, 17, 18, 1, 3, 4, 5, 67, 68, 69, 70, 71, 72, 73, 74, 75, 76, 77, 78, 79, 80, 81, 82, 83, 84] (by decide +kernel) (by decide +kernel)
set_option maxRecDepth 20000 in
theorem gX8_laysUnder_X8_laysStrips : GoodIn wsX8_laysUnder (wsV RX8 139 RX8 yX8_laysStrips wsX8_laysStrips) := goodIn_app (goodIn_of _ (by decide +kernel)) ggX8_laysUnder_X8_laysStrips
set_option maxRecDepth 20000 in
theorem ggX8_laysUnder_X8_laysSquares : GoodIn wsX8_laysUnder wsX8_laysSquares := goodIn_r _ [54, 7, 8, 55, 56, 57, 13, 58, 9, 15, 16, 17, 18, 1, 3, 4, 5, 47, 48, 49, 50, 59, 60, 61, 62, 63, 64, 65, 66, 43, 44, 45, 46, 19, 20, 21, 22, 23, 24, 25, 26, 27, 28, 29, 30, 31, 32, 67, 68, 69, 70, 71, 72, 73, 74, 75, 76, 77, 78, 79, 80, 81, 82, 83, 84] (by decide +kernel) (by decide +kernel)
set_option maxRecDepth 20000 in
theorem gX8_laysUnder_X8_laysSquares : GoodIn wsX8_laysUnder (wsV RX8 142 RX8 yX8_laysSquares wsX8_laysSquares) := goodIn_app (goodIn_of _ (by decide +kernel)) ggX8_laysUnder_X8_laysSquares
theorem dX8_laysUnder_0 : decode cX8_laysUnder 0 = .ok (.aload_n 0, 1) := by decide +kernel
theorem dX8_laysUnder_1 : decode cX8_laysUnder 1 = .ok (.iload_n 1, 1) := by decide +kernel
theorem dX8_laysUnder_2 : decode cX8_laysUnder 2 = .ok (.invokevirtual 135, 3) := by decide +kernel
theorem dX8_laysUnder_5 : decode cX8_laysUnder 5 = .ok (.aload_n 0, 1) := by decide +kernel
theorem dX8_laysUnder_6 : decode cX8_laysUnder 6 = .ok (.getfield 25, 3) := by decide +kernel
theorem dX8_laysUnder_9 : decode cX8_laysUnder 9 = .ok (.iload_n 1, 1) := by decide +kernel
theorem dX8_laysUnder_10 : decode cX8_laysUnder 10 = .ok (.iaload, 1) := by decide +kernel
theorem dX8_laysUnder_11 : decode cX8_laysUnder 11 = .ok (.aload_n 0, 1) := by decide +kernel
theorem dX8_laysUnder_12 : decode cX8_laysUnder 12 = .ok (.getfield 7, 3) := by decide +kernel
theorem dX8_laysUnder_15 : decode cX8_laysUnder 15 = .ok (.iconst 3, 1) := by decide +kernel
theorem dX8_laysUnder_16 : decode cX8_laysUnder 16 = .ok (.iaload, 1) := by decide +kernel
theorem dX8_laysUnder_17 : decode cX8_laysUnder 17 = .ok (.iadd, 1) := by decide +kernel
theorem dX8_laysUnder_18 : decode cX8_laysUnder 18 = .ok (.istore_n 3, 1) := by decide +kernel
theorem dX8_laysUnder_19 : decode cX8_laysUnder 19 = .ok (.aload_n 0, 1) := by decide +kernel
theorem dX8_laysUnder_20 : decode cX8_laysUnder 20 = .ok (.getfield 28, 3) := by decide +kernel
theorem dX8_laysUnder_23 : decode cX8_laysUnder 23 = .ok (.iload_n 1, 1) := by decide +kernel
theorem dX8_laysUnder_24 : decode cX8_laysUnder 24 = .ok (.iaload, 1) := by decide +kernel
theorem dX8_laysUnder_25 : decode cX8_laysUnder 25 = .ok (.aload_n 0, 1) := by decide +kernel
theorem dX8_laysUnder_26 : decode cX8_laysUnder 26 = .ok (.getfield 7, 3) := by decide +kernel
theorem dX8_laysUnder_29 : decode cX8_laysUnder 29 = .ok (.iconst 3, 1) := by decide +kernel
theorem dX8_laysUnder_30 : decode cX8_laysUnder 30 = .ok (.iaload, 1) := by decide +kernel
theorem dX8_laysUnder_31 : decode cX8_laysUnder 31 = .ok (.iadd, 1) := by decide +kernel
theorem dX8_laysUnder_32 : decode cX8_laysUnder 32 = .ok (.istore 4, 2) := by decide +kernel
theorem dX8_laysUnder_34 : decode cX8_laysUnder 34 = .ok (.aload_n 0, 1) := by decide +kernel
theorem dX8_laysUnder_35 : decode cX8_laysUnder 35 = .ok (.getfield 31, 3) := by decide +kernel
theorem dX8_laysUnder_38 : decode cX8_laysUnder 38 = .ok (.iload_n 1, 1) := by decide +kernel
theorem dX8_laysUnder_39 : decode cX8_laysUnder 39 = .ok (.iaload, 1) := by decide +kernel
theorem dX8_laysUnder_40 : decode cX8_laysUnder 40 = .ok (.iconst 2, 1) := by decide +kernel
theorem dX8_laysUnder_41 : decode cX8_laysUnder 41 = .ok (.aload_n 0, 1) := by decide +kernel
theorem dX8_laysUnder_42 : decode cX8_laysUnder 42 = .ok (.getfield 7, 3) := by decide +kernel
theorem dX8_laysUnder_45 : decode cX8_laysUnder 45 = .ok (.iconst 3, 1) := by decide +kernel
theorem dX8_laysUnder_46 : decode cX8_laysUnder 46 = .ok (.iaload, 1) := by decide +kernel
theorem dX8_laysUnder_47 : decode cX8_laysUnder 47 = .ok (.imul, 1) := by decide +kernel
theorem dX8_laysUnder_48 : decode cX8_laysUnder 48 = .ok (.isub, 1) := by decide +kernel
theorem dX8_laysUnder_49 : decode cX8_laysUnder 49 = .ok (.istore 5, 2) := by decide +kernel
theorem dX8_laysUnder_51 : decode cX8_laysUnder 51 = .ok (.aload_n 0, 1) := by decide +kernel
theorem dX8_laysUnder_52 : decode cX8_laysUnder 52 = .ok (.getfield 34, 3) := by decide +kernel
theorem dX8_laysUnder_55 : decode cX8_laysUnder 55 = .ok (.iload_n 1, 1) := by decide +kernel
theorem dX8_laysUnder_56 : decode cX8_laysUnder 56 = .ok (.iaload, 1) := by decide +kernel
theorem dX8_laysUnder_57 : decode cX8_laysUnder 57 = .ok (.iconst 2, 1) := by decide +kernel
theorem dX8_laysUnder_58 : decode cX8_laysUnder 58 = .ok (.aload_n 0, 1) := by decide +kernel
theorem dX8_laysUnder_59 : decode cX8_laysUnder 59 = .ok (.getfield 7, 3) := by decide +kernel
theorem dX8_laysUnder_62 : decode cX8_laysUnder 62 = .ok (.iconst 3, 1) := by decide +kernel
theorem dX8_laysUnder_63 : decode cX8_laysUnder 63 = .ok (.iaload, 1) := by decide +kernel
theorem dX8_laysUnder_64 : decode cX8_laysUnder 64 = .ok (.imul, 1) := by decide +kernel
theorem dX8_laysUnder_65 : decode cX8_laysUnder 65 = .ok (.isub, 1) := by decide +kernel
theorem dX8_laysUnder_66 : decode cX8_laysUnder 66 = .ok (.istore 6, 2) := by decide +kernel
theorem dX8_laysUnder_68 : decode cX8_laysUnder 68 = .ok (.aload_n 0, 1) := by decide +kernel
theorem dX8_laysUnder_69 : decode cX8_laysUnder 69 = .ok (.getfield 37, 3) := by decide +kernel
theorem dX8_laysUnder_72 : decode cX8_laysUnder 72 = .ok (.iload_n 1, 1) := by decide +kernel
theorem dX8_laysUnder_73 : decode cX8_laysUnder 73 = .ok (.baload, 1) := by decide +kernel
theorem dX8_laysUnder_74 : decode cX8_laysUnder 74 = .ok (.ifCond .ne 15, 3) := by decide +kernel
theorem dX8_laysUnder_77 : decode cX8_laysUnder 77 = .ok (.iload 5, 2) := by decide +kernel
theorem dX8_laysUnder_79 : decode cX8_laysUnder 79 = .ok (.iconst 1, 1) := by decide +kernel
theorem dX8_laysUnder_80 : decode cX8_laysUnder 80 = .ok (.if_icmp .lt 9, 3) := by decide +kernel
theorem dX8_laysUnder_83 : decode cX8_laysUnder 83 = .ok (.iload 6, 2) := by decide +kernel
theorem dX8_laysUnder_85 : decode cX8_laysUnder 85 = .ok (.iconst 1, 1) := by decide +kernel
theorem dX8_laysUnder_86 : decode cX8_laysUnder 86 = .ok (.if_icmp .ge 50, 3) := by decide +kernel
theorem dX8_laysUnder_89 : decode cX8_laysUnder 89 = .ok (.iconst 0, 1) := by decide +kernel
theorem dX8_laysUnder_90 : decode cX8_laysUnder 90 = .ok (.istore 7, 2) := by decide +kernel
theorem dX8_laysUnder_92 : decode cX8_laysUnder 92 = .ok (.iload 7, 2) := by decide +kernel
theorem dX8_laysUnder_94 : decode cX8_laysUnder 94 = .ok (.aload_n 0, 1) := by decide +kernel
theorem dX8_laysUnder_95 : decode cX8_laysUnder 95 = .ok (.getfield 96, 3) := by decide +kernel
theorem dX8_laysUnder_98 : decode cX8_laysUnder 98 = .ok (.if_icmp .ge 37, 3) := by decide +kernel
theorem dX8_laysUnder_101 : decode cX8_laysUnder 101 = .ok (.aload_n 0, 1) := by decide +kernel
theorem dX8_laysUnder_102 : decode cX8_laysUnder 102 = .ok (.aload_n 0, 1) := by decide +kernel
theorem dX8_laysUnder_103 : decode cX8_laysUnder 103 = .ok (.getfield 44, 3) := by decide +kernel
theorem dX8_laysUnder_106 : decode cX8_laysUnder 106 = .ok (.iload 7, 2) := by decide +kernel
theorem dX8_laysUnder_108 : decode cX8_laysUnder 108 = .ok (.iaload, 1) := by decide +kernel
theorem dX8_laysUnder_109 : decode cX8_laysUnder 109 = .ok (.iconst 0, 1) := by decide +kernel
theorem dX8_laysUnder_110 : decode cX8_laysUnder 110 = .ok (.iconst 0, 1) := by decide +kernel
theorem dX8_laysUnder_111 : decode cX8_laysUnder 111 = .ok (.iconst 0, 1) := by decide +kernel
theorem dX8_laysUnder_112 : decode cX8_laysUnder 112 = .ok (.iconst 0, 1) := by decide +kernel
theorem dX8_laysUnder_113 : decode cX8_laysUnder 113 = .ok (.invokevirtual 106, 3) := by decide +kernel
theorem dX8_laysUnder_116 : decode cX8_laysUnder 116 = .ok (.aload_n 0, 1) := by decide +kernel
theorem dX8_laysUnder_117 : decode cX8_laysUnder 117 = .ok (.getfield 37, 3) := by decide +kernel
theorem dX8_laysUnder_120 : decode cX8_laysUnder 120 = .ok (.aload_n 0, 1) := by decide +kernel
theorem dX8_laysUnder_121 : decode cX8_laysUnder 121 = .ok (.getfield 44, 3) := by decide +kernel
theorem dX8_laysUnder_124 : decode cX8_laysUnder 124 = .ok (.iload 7, 2) := by decide +kernel
theorem dX8_laysUnder_126 : decode cX8_laysUnder 126 = .ok (.iaload, 1) := by decide +kernel
theorem dX8_laysUnder_127 : decode cX8_laysUnder 127 = .ok (.iconst 1, 1) := by decide +kernel
theorem dX8_laysUnder_128 : decode cX8_laysUnder 128 = .ok (.bastore, 1) := by decide +kernel
theorem dX8_laysUnder_129 : decode cX8_laysUnder 129 = .ok (.iinc 7 1, 3) := by decide +kernel
theorem dX8_laysUnder_132 : decode cX8_laysUnder 132 = .ok (.goto (-40), 3) := by decide +kernel
theorem dX8_laysUnder_135 : decode cX8_laysUnder 135 = .ok (.return_, 1) := by decide +kernel
theorem dX8_laysUnder_136 : decode cX8_laysUnder 136 = .ok (.iconst 0, 1) := by decide +kernel
theorem dX8_laysUnder_137 : decode cX8_laysUnder 137 = .ok (.istore 7, 2) := by decide +kernel
theorem dX8_laysUnder_139 : decode cX8_laysUnder 139 = .ok (.iload 7, 2) := by decide +kernel
theorem dX8_laysUnder_141 : decode cX8_laysUnder 141 = .ok (.aload_n 0, 1) := by decide +kernel
theorem dX8_laysUnder_142 : decode cX8_laysUnder 142 = .ok (.getfield 96, 3) := by decide +kernel
theorem dX8_laysUnder_145 : decode cX8_laysUnder 145 = .ok (.if_icmp .ge 22, 3) := by decide +kernel
theorem dX8_laysUnder_148 : decode cX8_laysUnder 148 = .ok (.aload_n 0, 1) := by decide +kernel
theorem dX8_laysUnder_149 : decode cX8_laysUnder 149 = .ok (.getfield 37, 3) := by decide +kernel
theorem dX8_laysUnder_152 : decode cX8_laysUnder 152 = .ok (.aload_n 0, 1) := by decide +kernel
theorem dX8_laysUnder_153 : decode cX8_laysUnder 153 = .ok (.getfield 44, 3) := by decide +kernel
theorem dX8_laysUnder_156 : decode cX8_laysUnder 156 = .ok (.iload 7, 2) := by decide +kernel
theorem dX8_laysUnder_158 : decode cX8_laysUnder 158 = .ok (.iaload, 1) := by decide +kernel
theorem dX8_laysUnder_159 : decode cX8_laysUnder 159 = .ok (.iconst 0, 1) := by decide +kernel
theorem dX8_laysUnder_160 : decode cX8_laysUnder 160 = .ok (.bastore, 1) := by decide +kernel
theorem dX8_laysUnder_161 : decode cX8_laysUnder 161 = .ok (.iinc 7 1, 3) := by decide +kernel
theorem dX8_laysUnder_164 : decode cX8_laysUnder 164 = .ok (.goto (-25), 3) := by decide +kernel
theorem dX8_laysUnder_167 : decode cX8_laysUnder 167 = .ok (.aload_n 0, 1) := by decide +kernel
theorem dX8_laysUnder_168 : decode cX8_laysUnder 168 = .ok (.getfield 7, 3) := by decide +kernel
theorem dX8_laysUnder_171 : decode cX8_laysUnder 171 = .ok (.iconst 4, 1) := by decide +kernel
theorem dX8_laysUnder_172 : decode cX8_laysUnder 172 = .ok (.iaload, 1) := by decide +kernel
theorem dX8_laysUnder_173 : decode cX8_laysUnder 173 = .ok (.ifCond .ne 33, 3) := by decide +kernel
theorem dX8_laysUnder_176 : decode cX8_laysUnder 176 = .ok (.aload_n 0, 1) := by decide +kernel
theorem dX8_laysUnder_177 : decode cX8_laysUnder 177 = .ok (.iconst 0, 1) := by decide +kernel
theorem dX8_laysUnder_178 : decode cX8_laysUnder 178 = .ok (.aload_n 0, 1) := by decide +kernel
theorem dX8_laysUnder_179 : decode cX8_laysUnder 179 = .ok (.getfield 96, 3) := by decide +kernel
theorem dX8_laysUnder_182 : decode cX8_laysUnder 182 = .ok (.iload_n 3, 1) := by decide +kernel
theorem dX8_laysUnder_183 : decode cX8_laysUnder 183 = .ok (.iload 4, 2) := by decide +kernel
theorem dX8_laysUnder_185 : decode cX8_laysUnder 185 = .ok (.iload 5, 2) := by decide +kernel
theorem dX8_laysUnder_187 : decode cX8_laysUnder 187 = .ok (.iload 6, 2) := by decide +kernel
theorem dX8_laysUnder_189 : decode cX8_laysUnder 189 = .ok (.iload_n 2, 1) := by decide +kernel
theorem dX8_laysUnder_190 : decode cX8_laysUnder 190 = .ok (.iconst 2, 1) := by decide +kernel
theorem dX8_laysUnder_191 : decode cX8_laysUnder 191 = .ok (.irem, 1) := by decide +kernel
theorem dX8_laysUnder_192 : decode cX8_laysUnder 192 = .ok (.ifCond .ne 7, 3) := by decide +kernel
theorem dX8_laysUnder_195 : decode cX8_laysUnder 195 = .ok (.iconst 1, 1) := by decide +kernel
theorem dX8_laysUnder_196 : decode cX8_laysUnder 196 = .ok (.goto 4, 3) := by decide +kernel
theorem dX8_laysUnder_199 : decode cX8_laysUnder 199 = .ok (.iconst 0, 1) := by decide +kernel
theorem dX8_laysUnder_200 : decode cX8_laysUnder 200 = .ok (.invokevirtual 121, 3) := by decide +kernel
theorem dX8_laysUnder_203 : decode cX8_laysUnder 203 = .ok (.goto 44, 3) := by decide +kernel
theorem dX8_laysUnder_206 : decode cX8_laysUnder 206 = .ok (.aload_n 0, 1) := by decide +kernel
theorem dX8_laysUnder_207 : decode cX8_laysUnder 207 = .ok (.getfield 7, 3) := by decide +kernel
theorem dX8_laysUnder_210 : decode cX8_laysUnder 210 = .ok (.iconst 4, 1) := by decide +kernel
theorem dX8_laysUnder_211 : decode cX8_laysUnder 211 = .ok (.iaload, 1) := by decide +kernel
theorem dX8_laysUnder_212 : decode cX8_laysUnder 212 = .ok (.iconst 1, 1) := by decide +kernel
theorem dX8_laysUnder_213 : decode cX8_laysUnder 213 = .ok (.if_icmp .ne 23, 3) := by decide +kernel
theorem dX8_laysUnder_216 : decode cX8_laysUnder 216 = .ok (.aload_n 0, 1) := by decide +kernel
theorem dX8_laysUnder_217 : decode cX8_laysUnder 217 = .ok (.iload_n 3, 1) := by decide +kernel
theorem dX8_laysUnder_218 : decode cX8_laysUnder 218 = .ok (.iload 4, 2) := by decide +kernel
theorem dX8_laysUnder_220 : decode cX8_laysUnder 220 = .ok (.iload 5, 2) := by decide +kernel
theorem dX8_laysUnder_222 : decode cX8_laysUnder 222 = .ok (.iload 6, 2) := by decide +kernel
theorem dX8_laysUnder_224 : decode cX8_laysUnder 224 = .ok (.aload_n 0, 1) := by decide +kernel
theorem dX8_laysUnder_225 : decode cX8_laysUnder 225 = .ok (.getfield 41, 3) := by decide +kernel
theorem dX8_laysUnder_228 : decode cX8_laysUnder 228 = .ok (.iload_n 1, 1) := by decide +kernel
theorem dX8_laysUnder_229 : decode cX8_laysUnder 229 = .ok (.iaload, 1) := by decide +kernel
theorem dX8_laysUnder_230 : decode cX8_laysUnder 230 = .ok (.invokevirtual 139, 3) := by decide +kernel
theorem dX8_laysUnder_233 : decode cX8_laysUnder 233 = .ok (.goto 14, 3) := by decide +kernel
theorem dX8_laysUnder_236 : decode cX8_laysUnder 236 = .ok (.aload_n 0, 1) := by decide +kernel
theorem dX8_laysUnder_237 : decode cX8_laysUnder 237 = .ok (.iload_n 3, 1) := by decide +kernel
theorem dX8_laysUnder_238 : decode cX8_laysUnder 238 = .ok (.iload 4, 2) := by decide +kernel
theorem dX8_laysUnder_240 : decode cX8_laysUnder 240 = .ok (.iload 5, 2) := by decide +kernel
theorem dX8_laysUnder_242 : decode cX8_laysUnder 242 = .ok (.iload 6, 2) := by decide +kernel
theorem dX8_laysUnder_244 : decode cX8_laysUnder 244 = .ok (.invokevirtual 142, 3) := by decide +kernel
theorem dX8_laysUnder_247 : decode cX8_laysUnder 247 = .ok (.return_, 1) := by decide +kernel
set_option maxRecDepth 20000 in
theorem ggX8_lays_X8_sizeOf : GoodIn wsX8_lays wsX8_sizeOf := goodIn_r _ [8, 1, 9, 10, 11, 7, 12, 13, 14, 15, 16, 87, 88, 89, 90, 91, 92, 93, 94, 95, 96, 97, 98, 99, 100, 101, 102, 103, 104] (by decide +kernel) (by decide +kernel)
set_option maxRecDepth 20000 in
theorem gX8_lays_X8_sizeOf : GoodIn wsX8_lays (wsV RX8 86 RX8 yX8_sizeOf wsX8_sizeOf) := goodIn_app (goodIn_of _ (by decide +kernel)) ggX8_lays_X8_sizeOf
set_option maxRecDepth 20000 in
theorem ggX8_lays_X8_puts : GoodIn wsX8_lays wsX8_puts := goodIn_r _ [20, 21, 22, 23, 24, 87, 88, 89, 90, 91, 92, 93, 94, 95, 96, 97, 98, 99, 100, 101, 102, 103, 104] (by decide +kernel) (by decide +kernel)
set_option maxRecDepth 20000 in
theorem gX8_lays_X8_puts : GoodIn wsX8_lays (wsV RX8 106 RX8 yX8_puts wsX8_puts) := goodIn_app (goodIn_of _ (by decide +kernel)) ggX8_lays_X8_puts
set_option maxRecDepth 20000 in
theorem ggX8_lays_X8_depthOf : GoodIn wsX8_lays wsX8_depthOf := goodIn_r _ [28, 1, 87, 88, 89, 90, 91, 92, 93, 94, 95, 96, 97, 98, 99, 100, 101, 102, 103, 104] (by decide +kernel) (by decide +kernel)
set_option maxRecDepth 20000 in
theorem gX8_lays_X8_depthOf : GoodIn wsX8_lays (wsV RX8 89 RX8 yX8_depthOf wsX8_depthOf) := goodIn_app (goodIn_of _ (by decide +kernel)) ggX8_lays_X8_depthOf
set_option maxRecDepth 20000 in
theorem ggX8_lays_X8_childMany : GoodIn wsX8_lays wsX8_childMany := goodIn_r _ [12, 1, 87, 88, 89, 90, 91, 92, 93, 94, 95, 96, 97, 98, 99, 100, 101, 102, 103, 104] (by decide +kernel) (by decide +kernel)
set_option maxRecDepth 20000 in
theorem gX8_lays_X8_childMany : GoodIn wsX8_lays (wsV RX8 68 RX8 yX8_childMany wsX8_childMany) := goodIn_app (goodIn_of _ (by decide +kernel)) ggX8_lays_X8_childMany
set_option maxRecDepth 20000 in
theorem ggX8_lays_X8_laysUnder : GoodIn wsX8_lays wsX8_laysUnder := goodIn_r _ [32, 21, 1, 22, 23, 24, 3, 33, 34, 2, 35, 36, 37, 7, 38, 17, 18, 19, 20, 39, 40, 41, 42, 43, 44, 45, 46, 47, 48, 49, 50, 51, 52, 53, 54, 55, 56, 57, 58, 59, 60, 61, 62, 63, 64, 65, 66, 67, 68, 69, 70, 71, 72, 73, 74, 75, 76, 77, 78, 79, 80, 81, 82, 83, 84, 85, 86, 87, 88, 89, 90, 91, 92, 93, 94, 95, 96, 97, 98, 99, 100, 101, 102, 103, 104] (by decide +kernel) (by decide +kernel)
set_option maxRecDepth 20000 in
theorem gX8_lays_X8_laysUnder : GoodIn wsX8_lays (wsV RX8 146 RX8 yX8_laysUnder wsX8_laysUnder) := goodIn_app (goodIn_of _ (by decide +kernel)) ggX8_lays_X8_laysUnder
theorem dX8_lays_0 : decode cX8_lays 0 = .ok (.iconst 0, 1) := by decide +kernel
theorem dX8_lays_1 : decode cX8_lays 1 = .ok (.istore_n 1, 1) := by decide +kernel
theorem dX8_lays_2 : decode cX8_lays 2 = .ok (.iload_n 1, 1) := by decide +kernel
theorem dX8_lays_3 : decode cX8_lays 3 = .ok (.aload_n 0, 1) := by decide +kernel
theorem dX8_lays_4 : decode cX8_lays 4 = .ok (.getfield 7, 3) := by decide +kernel
theorem dX8_lays_7 : decode cX8_lays 7 = .ok (.iconst 0, 1) := by decide +kernel
theorem dX8_lays_8 : decode cX8_lays 8 = .ok (.iaload, 1) := by decide +kernel
theorem dX8_lays_9 : decode cX8_lays 9 = .ok (.if_icmp .ge 20, 3) := by decide +kernel
theorem dX8_lays_12 : decode cX8_lays 12 = .ok (.aload_n 0, 1) := by decide +kernel
theorem dX8_lays_13 : decode cX8_lays 13 = .ok (.getfield 41, 3) := by decide +kernel
theorem dX8_lays_16 : decode cX8_lays 16 = .ok (.iload_n 1, 1) := by decide +kernel
theorem dX8_lays_17 : decode cX8_lays 17 = .ok (.aload_n 0, 1) := by decide +kernel
theorem dX8_lays_18 : decode cX8_lays 18 = .ok (.iload_n 1, 1) := by decide +kernel
theorem dX8_lays_19 : decode cX8_lays 19 = .ok (.invokevirtual 86, 3) := by decide +kernel
theorem dX8_lays_22 : decode cX8_lays 22 = .ok (.iastore, 1) := by decide +kernel
theorem dX8_lays_23 : decode cX8_lays 23 = .ok (.iinc 1 1, 3) := by decide +kernel
theorem dX8_lays_26 : decode cX8_lays 26 = .ok (.goto (-24), 3) := by decide +kernel
theorem dX8_lays_29 : decode cX8_lays 29 = .ok (.aload_n 0, 1) := by decide +kernel
theorem dX8_lays_30 : decode cX8_lays 30 = .ok (.iconst 0, 1) := by decide +kernel
theorem dX8_lays_31 : decode cX8_lays 31 = .ok (.iconst 0, 1) := by decide +kernel
theorem dX8_lays_32 : decode cX8_lays 32 = .ok (.iconst 0, 1) := by decide +kernel
theorem dX8_lays_33 : decode cX8_lays 33 = .ok (.aload_n 0, 1) := by decide +kernel
theorem dX8_lays_34 : decode cX8_lays 34 = .ok (.getfield 7, 3) := by decide +kernel
theorem dX8_lays_37 : decode cX8_lays 37 = .ok (.iconst 1, 1) := by decide +kernel
theorem dX8_lays_38 : decode cX8_lays 38 = .ok (.iaload, 1) := by decide +kernel
theorem dX8_lays_39 : decode cX8_lays 39 = .ok (.aload_n 0, 1) := by decide +kernel
theorem dX8_lays_40 : decode cX8_lays 40 = .ok (.getfield 7, 3) := by decide +kernel
theorem dX8_lays_43 : decode cX8_lays 43 = .ok (.iconst 2, 1) := by decide +kernel
theorem dX8_lays_44 : decode cX8_lays 44 = .ok (.iaload, 1) := by decide +kernel
theorem dX8_lays_45 : decode cX8_lays 45 = .ok (.invokevirtual 106, 3) := by decide +kernel
theorem dX8_lays_48 : decode cX8_lays 48 = .ok (.aload_n 0, 1) := by decide +kernel
theorem dX8_lays_49 : decode cX8_lays 49 = .ok (.getfield 37, 3) := by decide +kernel
theorem dX8_lays_52 : decode cX8_lays 52 = .ok (.iconst 0, 1) := by decide +kernel
theorem dX8_lays_53 : decode cX8_lays 53 = .ok (.iconst 0, 1) := by decide +kernel
theorem dX8_lays_54 : decode cX8_lays 54 = .ok (.bastore, 1) := by decide +kernel
theorem dX8_lays_55 : decode cX8_lays 55 = .ok (.iconst 0, 1) := by decide +kernel
theorem dX8_lays_56 : decode cX8_lays 56 = .ok (.istore_n 1, 1) := by decide +kernel
theorem dX8_lays_57 : decode cX8_lays 57 = .ok (.iload_n 1, 1) := by decide +kernel
theorem dX8_lays_58 : decode cX8_lays 58 = .ok (.bipush 24, 2) := by decide +kernel
theorem dX8_lays_60 : decode cX8_lays 60 = .ok (.if_icmp .ge 50, 3) := by decide +kernel
theorem dX8_lays_63 : decode cX8_lays 63 = .ok (.iconst 0, 1) := by decide +kernel
theorem dX8_lays_64 : decode cX8_lays 64 = .ok (.istore_n 2, 1) := by decide +kernel
theorem dX8_lays_65 : decode cX8_lays 65 = .ok (.iload_n 2, 1) := by decide +kernel
theorem dX8_lays_66 : decode cX8_lays 66 = .ok (.aload_n 0, 1) := by decide +kernel
theorem dX8_lays_67 : decode cX8_lays 67 = .ok (.getfield 7, 3) := by decide +kernel
theorem dX8_lays_70 : decode cX8_lays 70 = .ok (.iconst 0, 1) := by decide +kernel
theorem dX8_lays_71 : decode cX8_lays 71 = .ok (.iaload, 1) := by decide +kernel
theorem dX8_lays_72 : decode cX8_lays 72 = .ok (.if_icmp .ge 32, 3) := by decide +kernel
theorem dX8_lays_75 : decode cX8_lays 75 = .ok (.aload_n 0, 1) := by decide +kernel
theorem dX8_lays_76 : decode cX8_lays 76 = .ok (.iload_n 2, 1) := by decide +kernel
theorem dX8_lays_77 : decode cX8_lays 77 = .ok (.invokevirtual 89, 3) := by decide +kernel
theorem dX8_lays_80 : decode cX8_lays 80 = .ok (.iload_n 1, 1) := by decide +kernel
theorem dX8_lays_81 : decode cX8_lays 81 = .ok (.if_icmp .ne 17, 3) := by decide +kernel
theorem dX8_lays_84 : decode cX8_lays 84 = .ok (.aload_n 0, 1) := by decide +kernel
theorem dX8_lays_85 : decode cX8_lays 85 = .ok (.iload_n 2, 1) := by decide +kernel
theorem dX8_lays_86 : decode cX8_lays 86 = .ok (.invokevirtual 68, 3) := by decide +kernel
theorem dX8_lays_89 : decode cX8_lays 89 = .ok (.ifCond .le 9, 3) := by decide +kernel
theorem dX8_lays_92 : decode cX8_lays 92 = .ok (.aload_n 0, 1) := by decide +kernel
theorem dX8_lays_93 : decode cX8_lays 93 = .ok (.iload_n 2, 1) := by decide +kernel
theorem dX8_lays_94 : decode cX8_lays 94 = .ok (.iload_n 1, 1) := by decide +kernel
theorem dX8_lays_95 : decode cX8_lays 95 = .ok (.invokevirtual 146, 3) := by decide +kernel
theorem dX8_lays_98 : decode cX8_lays 98 = .ok (.iinc 2 1, 3) := by decide +kernel
theorem dX8_lays_101 : decode cX8_lays 101 = .ok (.goto (-36), 3) := by decide +kernel
theorem dX8_lays_104 : decode cX8_lays 104 = .ok (.iinc 1 1, 3) := by decide +kernel
theorem dX8_lays_107 : decode cX8_lays 107 = .ok (.goto (-50), 3) := by decide +kernel
theorem dX8_lays_110 : decode cX8_lays 110 = .ok (.return_, 1) := by decide +kernel
set_option maxRecDepth 20000 in
theorem ggX8_x_X8_lays : GoodIn wsX8_x wsX8_lays := goodIn_r _ [6, 7, 8, 9, 10, 11, 12, 5, 13, 14, 15, 16, 17, 18, 19, 20, 21, 22, 23, 24, 25, 1, 26, 27, 28, 29, 30, 31, 32, 33, 34, 35, 36, 37, 38, 39, 40, 41, 42, 43, 44, 45, 46, 47, 48, 49, 50, 51, 52, 53, 54, 55, 56, 57, 58, 59, 60, 61, 62, 63, 64, 65, 66, 67, 68, 69, 70, 71, 72, 73, 74, 75, 76, 77, 78, 79, 80, 81, 82, 83, 84, 85, 86, 87, 88, 89, 90, 103, 104, 105, 106, 107, 108, 109, 110, 111, 112, 113, 114, 115, 116, 117, 118, 119, 120] (by decide +kernel) (by decide +kernel)
set_option maxRecDepth 20000 in
theorem gX8_x_X8_lays : GoodIn wsX8_x (wsV RX8 149 RX8 yX8_lays wsX8_lays) := goodIn_app (goodIn_of _ (by decide +kernel)) ggX8_x_X8_lays
set_option maxRecDepth 20000 in
theorem ggX8_x_X8_isNode : GoodIn wsX8_x wsX8_isNode := goodIn_r _ [94, 7, 95, 96, 5, 97, 103, 104, 105, 106, 107, 108, 109, 110, 111, 112, 113, 114, 115, 116, 117, 118, 119, 120] (by decide +kernel) (by decide +kernel)
set_option maxRecDepth 20000 in
theorem gX8_x_X8_isNode : GoodIn wsX8_x (wsV RX8 75 RX8 yX8_isNode wsX8_isNode) := goodIn_app (goodIn_of _ (by decide +kernel)) ggX8_x_X8_isNode
set_option maxRecDepth 20000 in
theorem ggX8_x_X8_fails : GoodIn wsX8_x wsX8_fails := goodIn_r _ [101, 102, 103, 104, 105, 106, 107, 108, 109, 110, 111, 112, 113, 114, 115, 116, 117, 118, 119, 120] (by decide +kernel) (by decide +kernel)
set_option maxRecDepth 20000 in
theorem gX8_x_X8_fails : GoodIn wsX8_x (wsV RX8 64 RX8 yX8_fails wsX8_fails) := goodIn_app (goodIn_of _ (by decide +kernel)) ggX8_x_X8_fails
theorem dX8_x_0 : decode cX8_x 0 = .ok (.aload_n 0, 1) := by decide +kernel
theorem dX8_x_1 : decode cX8_x 1 = .ok (.invokevirtual 149, 3) := by decide +kernel
theorem dX8_x_4 : decode cX8_x 4 = .ok (.aload_n 0, 1) := by decide +kernel
theorem dX8_x_5 : decode cX8_x 5 = .ok (.iload_n 1, 1) := by decide +kernel
theorem dX8_x_6 : decode cX8_x 6 = .ok (.invokevirtual 75, 3) := by decide +kernel
theorem dX8_x_9 : decode cX8_x 9 = .ok (.ifCond .eq 12, 3) := by decide +kernel
theorem dX8_x_12 : decode cX8_x 12 = .ok (.aload_n 0, 1) := by decide +kernel
theorem dX8_x_13 : decode cX8_x 13 = .ok (.getfield 25, 3) := by decide +kernel
theorem dX8_x_16 : decode cX8_x 16 = .ok (.iload_n 1, 1) := by decide +kernel
theorem dX8_x_17 : decode cX8_x 17 = .ok (.iaload, 1) := by decide +kernel
theorem dX8_x_18 : decode cX8_x 18 = .ok (.goto 9, 3) := by decide +kernel
theorem dX8_x_21 : decode cX8_x 21 = .ok (.aload_n 0, 1) := by decide +kernel
theorem dX8_x_22 : decode cX8_x 22 = .ok (.bipush (-2), 2) := by decide +kernel
theorem dX8_x_24 : decode cX8_x 24 = .ok (.invokevirtual 64, 3) := by decide +kernel
theorem dX8_x_27 : decode cX8_x 27 = .ok (.ireturn, 1) := by decide +kernel
set_option maxRecDepth 20000 in
theorem ggX8_y_X8_lays : GoodIn wsX8_y wsX8_lays := goodIn_r _ [6, 7, 8, 9, 10, 11, 12, 5, 13, 14, 15, 16, 17, 18, 19, 20, 21, 22, 23, 24, 25, 26, 1, 27, 28, 29, 30, 31, 32, 33, 34, 35, 36, 37, 38, 39, 40, 41, 42, 43, 44, 45, 46, 47, 48, 49, 50, 51, 52, 53, 54, 55, 56, 57, 58, 59, 60, 61, 62, 63, 64, 65, 66, 67, 68, 69, 70, 71, 72, 73, 74, 75, 76, 77, 78, 79, 80, 81, 82, 83, 84, 85, 86, 87, 88, 89, 90, 103, 104, 105, 106, 107, 108, 109, 110, 111, 112, 113, 114, 115, 116, 117, 118, 119, 120] (by decide +kernel) (by decide +kernel)
set_option maxRecDepth 20000 in
theorem gX8_y_X8_lays : GoodIn wsX8_y (wsV RX8 149 RX8 yX8_lays wsX8_lays) := goodIn_app (goodIn_of _ (by decide +kernel)) ggX8_y_X8_lays
set_option maxRecDepth 20000 in
theorem ggX8_y_X8_isNode : GoodIn wsX8_y wsX8_isNode := goodIn_r _ [94, 7, 95, 96, 5, 97, 103, 104, 105, 106, 107, 108, 109, 110, 111, 112, 113, 114, 115, 116, 117, 118, 119, 120] (by decide +kernel) (by decide +kernel)
set_option maxRecDepth 20000 in
theorem gX8_y_X8_isNode : GoodIn wsX8_y (wsV RX8 75 RX8 yX8_isNode wsX8_isNode) := goodIn_app (goodIn_of _ (by decide +kernel)) ggX8_y_X8_isNode
set_option maxRecDepth 20000 in
theorem ggX8_y_X8_fails : GoodIn wsX8_y wsX8_fails := goodIn_r _ [101, 102, 103, 104, 105, 106, 107, 108, 109, 110, 111, 112, 113, 114, 115, 116, 117, 118, 119, 120] (by decide +kernel) (by decide +kernel)
set_option maxRecDepth 20000 in
theorem gX8_y_X8_fails : GoodIn wsX8_y (wsV RX8 64 RX8 yX8_fails wsX8_fails) := goodIn_app (goodIn_of _ (by decide +kernel)) ggX8_y_X8_fails
theorem dX8_y_0 : decode cX8_y 0 = .ok (.aload_n 0, 1) := by decide +kernel
theorem dX8_y_1 : decode cX8_y 1 = .ok (.invokevirtual 149, 3) := by decide +kernel
theorem dX8_y_4 : decode cX8_y 4 = .ok (.aload_n 0, 1) := by decide +kernel
theorem dX8_y_5 : decode cX8_y 5 = .ok (.iload_n 1, 1) := by decide +kernel
theorem dX8_y_6 : decode cX8_y 6 = .ok (.invokevirtual 75, 3) := by decide +kernel
theorem dX8_y_9 : decode cX8_y 9 = .ok (.ifCond .eq 12, 3) := by decide +kernel
theorem dX8_y_12 : decode cX8_y 12 = .ok (.aload_n 0, 1) := by decide +kernel
theorem dX8_y_13 : decode cX8_y 13 = .ok (.getfield 28, 3) := by decide +kernel
theorem dX8_y_16 : decode cX8_y 16 = .ok (.iload_n 1, 1) := by decide +kernel
theorem dX8_y_17 : decode cX8_y 17 = .ok (.iaload, 1) := by decide +kernel
theorem dX8_y_18 : decode cX8_y 18 = .ok (.goto 9, 3) := by decide +kernel
theorem dX8_y_21 : decode cX8_y 21 = .ok (.aload_n 0, 1) := by decide +kernel
theorem dX8_y_22 : decode cX8_y 22 = .ok (.bipush (-2), 2) := by decide +kernel
theorem dX8_y_24 : decode cX8_y 24 = .ok (.invokevirtual 64, 3) := by decide +kernel
theorem dX8_y_27 : decode cX8_y 27 = .ok (.ireturn, 1) := by decide +kernel
set_option maxRecDepth 20000 in
theorem ggX8_width_X8_lays : GoodIn wsX8_width wsX8_lays := goodIn_r _ [6, 7, 8, 9, 10, 11, 12, 5, 13, 14, 15, 16, 17, 18, 19, 20, 21, 22, 23, 24, 25, 26, 27, 1, 28, 29, 30, 31, 32, 33, 34, 35, 36, 37, 38, 39, 40, 41, 42, 43, 44, 45, 46, 47, 48, 49, 50, 51, 52, 53, 54, 55, 56, 57, 58, 59, 60, 61, 62, 63, 64, 65, 66, 67, 68, 69, 70, 71, 72, 73, 74, 75, 76, 77, 78, 79, 80, 81, 82, 83, 84, 85, 86, 87, 88, 89, 90, 103, 104, 105, 106, 107, 108, 109, 110, 111, 112, 113, 114, 115, 116, 117, 118, 119, 120] (by decide +kernel) (by decide +kernel)
set_option maxRecDepth 20000 in
theorem gX8_width_X8_lays : GoodIn wsX8_width (wsV RX8 149 RX8 yX8_lays wsX8_lays) := goodIn_app (goodIn_of _ (by decide +kernel)) ggX8_width_X8_lays
set_option maxRecDepth 20000 in
theorem ggX8_width_X8_isNode : GoodIn wsX8_width wsX8_isNode := goodIn_r _ [94, 7, 95, 96, 5, 97, 103, 104, 105, 106, 107, 108, 109, 110, 111, 112, 113, 114, 115, 116, 117, 118, 119, 120] (by decide +kernel) (by decide +kernel)
set_option maxRecDepth 20000 in
theorem gX8_width_X8_isNode : GoodIn wsX8_width (wsV RX8 75 RX8 yX8_isNode wsX8_isNode) := goodIn_app (goodIn_of _ (by decide +kernel)) ggX8_width_X8_isNode
set_option maxRecDepth 20000 in
theorem ggX8_width_X8_fails : GoodIn wsX8_width wsX8_fails := goodIn_r _ [101, 102, 103, 104, 105, 106, 107, 108, 109, 110, 111, 112, 113, 114, 115, 116, 117, 118, 119, 120] (by decide +kernel) (by decide +kernel)
set_option maxRecDepth 20000 in
theorem gX8_width_X8_fails : GoodIn wsX8_width (wsV RX8 64 RX8 yX8_fails wsX8_fails) := goodIn_app (goodIn_of _ (by decide +kernel)) ggX8_width_X8_fails
theorem dX8_width_0 : decode cX8_width 0 = .ok (.aload_n 0, 1) := by decide +kernel
theorem dX8_width_1 : decode cX8_width 1 = .ok (.invokevirtual 149, 3) := by decide +kernel
theorem dX8_width_4 : decode cX8_width 4 = .ok (.aload_n 0, 1) := by decide +kernel
theorem dX8_width_5 : decode cX8_width 5 = .ok (.iload_n 1, 1) := by decide +kernel
theorem dX8_width_6 : decode cX8_width 6 = .ok (.invokevirtual 75, 3) := by decide +kernel
theorem dX8_width_9 : decode cX8_width 9 = .ok (.ifCond .eq 12, 3) := by decide +kernel
theorem dX8_width_12 : decode cX8_width 12 = .ok (.aload_n 0, 1) := by decide +kernel
theorem dX8_width_13 : decode cX8_width 13 = .ok (.getfield 31, 3) := by decide +kernel
theorem dX8_width_16 : decode cX8_width 16 = .ok (.iload_n 1, 1) := by decide +kernel
theorem dX8_width_17 : decode cX8_width 17 = .ok (.iaload, 1) := by decide +kernel
theorem dX8_width_18 : decode cX8_width 18 = .ok (.goto 9, 3) := by decide +kernel
theorem dX8_width_21 : decode cX8_width 21 = .ok (.aload_n 0, 1) := by decide +kernel
theorem dX8_width_22 : decode cX8_width 22 = .ok (.bipush (-2), 2) := by decide +kernel
theorem dX8_width_24 : decode cX8_width 24 = .ok (.invokevirtual 64, 3) := by decide +kernel
theorem dX8_width_27 : decode cX8_width 27 = .ok (.ireturn, 1) := by decide +kernel
set_option maxRecDepth 20000 in
theorem ggX8_height_X8_lays : GoodIn wsX8_height wsX8_lays := goodIn_r _ [6, 7, 8, 9, 10, 11, 12, 5, 13, 14, 15, 16, 17, 18, 19, 20, 21, 22, 23, 24, 25, 26, 27, 28, 1, 29, 30, 31, 32, 33, 34, 35, 36, 37, 38, 39, 40, 41, 42, 43, 44, 45, 46, 47, 48, 49, 50, 51, 52, 53, 54, 55, 56, 57, 58, 59, 60, 61, 62, 63, 64, 65, 66, 67, 68, 69, 70, 71, 72, 73, 74, 75, 76, 77, 78, 79, 80, 81, 82, 83, 84, 85, 86, 87, 88, 89, 90, 103, 104, 105, 106, 107, 108, 109, 110, 111, 112, 113, 114, 115, 116, 117, 118, 119, 120] (by decide +kernel) (by decide +kernel)
set_option maxRecDepth 20000 in
theorem gX8_height_X8_lays : GoodIn wsX8_height (wsV RX8 149 RX8 yX8_lays wsX8_lays) := goodIn_app (goodIn_of _ (by decide +kernel)) ggX8_height_X8_lays
set_option maxRecDepth 20000 in
theorem ggX8_height_X8_isNode : GoodIn wsX8_height wsX8_isNode := goodIn_r _ [94, 7, 95, 96, 5, 97, 103, 104, 105, 106, 107, 108, 109, 110, 111, 112, 113, 114, 115, 116, 117, 118, 119, 120] (by decide +kernel) (by decide +kernel)
set_option maxRecDepth 20000 in
theorem gX8_height_X8_isNode : GoodIn wsX8_height (wsV RX8 75 RX8 yX8_isNode wsX8_isNode) := goodIn_app (goodIn_of _ (by decide +kernel)) ggX8_height_X8_isNode
set_option maxRecDepth 20000 in
theorem ggX8_height_X8_fails : GoodIn wsX8_height wsX8_fails := goodIn_r _ [101, 102, 103, 104, 105, 106, 107, 108, 109, 110, 111, 112, 113, 114, 115, 116, 117, 118, 119, 120] (by decide +kernel) (by decide +kernel)
set_option maxRecDepth 20000 in
theorem gX8_height_X8_fails : GoodIn wsX8_height (wsV RX8 64 RX8 yX8_fails wsX8_fails) := goodIn_app (goodIn_of _ (by decide +kernel)) ggX8_height_X8_fails
theorem dX8_height_0 : decode cX8_height 0 = .ok (.aload_n 0, 1) := by decide +kernel
theorem dX8_height_1 : decode cX8_height 1 = .ok (.invokevirtual 149, 3) := by decide +kernel
theorem dX8_height_4 : decode cX8_height 4 = .ok (.aload_n 0, 1) := by decide +kernel
theorem dX8_height_5 : decode cX8_height 5 = .ok (.iload_n 1, 1) := by decide +kernel
theorem dX8_height_6 : decode cX8_height 6 = .ok (.invokevirtual 75, 3) := by decide +kernel
theorem dX8_height_9 : decode cX8_height 9 = .ok (.ifCond .eq 12, 3) := by decide +kernel
theorem dX8_height_12 : decode cX8_height 12 = .ok (.aload_n 0, 1) := by decide +kernel
theorem dX8_height_13 : decode cX8_height 13 = .ok (.getfield 34, 3) := by decide +kernel
theorem dX8_height_16 : decode cX8_height 16 = .ok (.iload_n 1, 1) := by decide +kernel
theorem dX8_height_17 : decode cX8_height 17 = .ok (.iaload, 1) := by decide +kernel
theorem dX8_height_18 : decode cX8_height 18 = .ok (.goto 9, 3) := by decide +kernel
theorem dX8_height_21 : decode cX8_height 21 = .ok (.aload_n 0, 1) := by decide +kernel
theorem dX8_height_22 : decode cX8_height 22 = .ok (.bipush (-2), 2) := by decide +kernel
theorem dX8_height_24 : decode cX8_height 24 = .ok (.invokevirtual 64, 3) := by decide +kernel
theorem dX8_height_27 : decode cX8_height 27 = .ok (.ireturn, 1) := by decide +kernel
set_option maxRecDepth 20000 in
theorem ggX8_isHidden_X8_lays : GoodIn wsX8_isHidden wsX8_lays := goodIn_r _ [6, 7, 8, 1, 9, 10, 11, 5, 12, 13, 14, 15, 16, 17, 18, 19, 20, 21, 22, 23, 24, 25, 26, 27, 28, 29, 30, 31, 32, 33, 34, 35, 36, 37, 38, 39, 40, 41, 42, 43, 44, 45, 46, 47, 48, 49, 50, 51, 52, 53, 54, 55, 56, 57, 58, 59, 60, 61, 62, 63, 64, 65, 66, 67, 68, 69, 70, 71, 72, 73, 74, 75, 76, 77, 78, 79, 80, 81, 82, 83, 84, 85, 86, 87, 88, 89, 90, 103, 104, 105, 106, 107, 108, 109, 110, 111, 112, 113, 114, 115, 116, 117, 118, 119, 120] (by decide +kernel) (by decide +kernel)
set_option maxRecDepth 20000 in
theorem gX8_isHidden_X8_lays : GoodIn wsX8_isHidden (wsV RX8 149 RX8 yX8_lays wsX8_lays) := goodIn_app (goodIn_of _ (by decide +kernel)) ggX8_isHidden_X8_lays
set_option maxRecDepth 20000 in
theorem ggX8_isHidden_X8_isNode : GoodIn wsX8_isHidden wsX8_isNode := goodIn_r _ [94, 7, 95, 96, 5, 97, 103, 104, 105, 106, 107, 108, 109, 110, 111, 112, 113, 114, 115, 116, 117, 118, 119, 120] (by decide +kernel) (by decide +kernel)
set_option maxRecDepth 20000 in
theorem gX8_isHidden_X8_isNode : GoodIn wsX8_isHidden (wsV RX8 75 RX8 yX8_isNode wsX8_isNode) := goodIn_app (goodIn_of _ (by decide +kernel)) ggX8_isHidden_X8_isNode
set_option maxRecDepth 20000 in
theorem ggX8_isHidden_X8_fails : GoodIn wsX8_isHidden wsX8_fails := goodIn_r _ [101, 102, 103, 104, 105, 106, 107, 108, 109, 110, 111, 112, 113, 114, 115, 116, 117, 118, 119, 120] (by decide +kernel) (by decide +kernel)
set_option maxRecDepth 20000 in
theorem gX8_isHidden_X8_fails : GoodIn wsX8_isHidden (wsV RX8 64 RX8 yX8_fails wsX8_fails) := goodIn_app (goodIn_of _ (by decide +kernel)) ggX8_isHidden_X8_fails
theorem dX8_isHidden_0 : decode cX8_isHidden 0 = .ok (.aload_n 0, 1) := by decide +kernel
theorem dX8_isHidden_1 : decode cX8_isHidden 1 = .ok (.invokevirtual 149, 3) := by decide +kernel
theorem dX8_isHidden_4 : decode cX8_isHidden 4 = .ok (.aload_n 0, 1) := by decide +kernel
theorem dX8_isHidden_5 : decode cX8_isHidden 5 = .ok (.iload_n 1, 1) := by decide +kernel
theorem dX8_isHidden_6 : decode cX8_isHidden 6 = .ok (.invokevirtual 75, 3) := by decide +kernel
theorem dX8_isHidden_9 : decode cX8_isHidden 9 = .ok (.ifCond .eq 20, 3) := by decide +kernel
theorem dX8_isHidden_12 : decode cX8_isHidden 12 = .ok (.aload_n 0, 1) := by decide +kernel
theorem dX8_isHidden_13 : decode cX8_isHidden 13 = .ok (.getfield 37, 3) := by decide +kernel
theorem dX8_isHidden_16 : decode cX8_isHidden 16 = .ok (.iload_n 1, 1) := by decide +kernel
theorem dX8_isHidden_17 : decode cX8_isHidden 17 = .ok (.baload, 1) := by decide +kernel
theorem dX8_isHidden_18 : decode cX8_isHidden 18 = .ok (.ifCond .eq 7, 3) := by decide +kernel
theorem dX8_isHidden_21 : decode cX8_isHidden 21 = .ok (.iconst 1, 1) := by decide +kernel
theorem dX8_isHidden_22 : decode cX8_isHidden 22 = .ok (.goto 13, 3) := by decide +kernel
theorem dX8_isHidden_25 : decode cX8_isHidden 25 = .ok (.iconst 0, 1) := by decide +kernel
theorem dX8_isHidden_26 : decode cX8_isHidden 26 = .ok (.goto 9, 3) := by decide +kernel
theorem dX8_isHidden_29 : decode cX8_isHidden 29 = .ok (.aload_n 0, 1) := by decide +kernel
theorem dX8_isHidden_30 : decode cX8_isHidden 30 = .ok (.bipush (-2), 2) := by decide +kernel
theorem dX8_isHidden_32 : decode cX8_isHidden 32 = .ok (.invokevirtual 64, 3) := by decide +kernel
theorem dX8_isHidden_35 : decode cX8_isHidden 35 = .ok (.ireturn, 1) := by decide +kernel
set_option maxRecDepth 20000 in
theorem ggX8_nodeAt_X8_within : GoodIn wsX8_nodeAt wsX8_within := goodIn_r _ [9] (by decide +kernel) (by decide +kernel)
set_option maxRecDepth 20000 in
theorem gX8_nodeAt_X8_within : GoodIn wsX8_nodeAt (va_wsS RX8 56 yX8_within wsX8_within) := goodIn_app (goodIn_of _ (by decide +kernel)) ggX8_nodeAt_X8_within
set_option maxRecDepth 20000 in
theorem ggX8_nodeAt_X8_fails : GoodIn wsX8_nodeAt wsX8_fails := goodIn_r _ [13, 14, 99, 100, 101, 102, 103, 104, 105, 106, 107, 108, 109, 110, 111, 112, 113, 114, 115, 116] (by decide +kernel) (by decide +kernel)
set_option maxRecDepth 20000 in
theorem gX8_nodeAt_X8_fails : GoodIn wsX8_nodeAt (wsV RX8 64 RX8 yX8_fails wsX8_fails) := goodIn_app (goodIn_of _ (by decide +kernel)) ggX8_nodeAt_X8_fails
set_option maxRecDepth 20000 in
theorem ggX8_nodeAt_X8_lays : GoodIn wsX8_nodeAt wsX8_lays := goodIn_r _ [18, 1, 19, 20, 21, 22, 23, 8, 24, 25, 26, 27, 28, 29, 30, 31, 32, 33, 34, 35, 36, 2, 4, 3, 5, 37, 38, 39, 40, 41, 42, 43, 44, 45, 46, 47, 48, 49, 50, 51, 52, 53, 54, 55, 56, 57, 58, 59, 60, 61, 62, 63, 64, 65, 66, 67, 68, 69, 70, 71, 72, 73, 74, 75, 76, 77, 78, 79, 80, 81, 82, 83, 84, 85, 86, 87, 88, 89, 90, 91, 92, 93, 94, 95, 96, 97, 98, 99, 100, 101, 102, 103, 104, 105, 106, 107, 108, 109, 110, 111, 112, 113, 114, 115, 116] (by decide +kernel) (by decide +kernel)
set_option maxRecDepth 20000 in
theorem gX8_nodeAt_X8_lays : GoodIn wsX8_nodeAt (wsV RX8 149 RX8 yX8_lays wsX8_lays) := goodIn_app (goodIn_of _ (by decide +kernel)) ggX8_nodeAt_X8_lays
set_option maxRecDepth 20000 in
theorem ggX8_nodeAt_X8_depthOf : GoodIn wsX8_nodeAt wsX8_depthOf := goodIn_r _ [40, 1, 99, 100, 101, 102, 103, 104, 105, 106, 107, 108, 109, 110, 111, 112, 113, 114, 115, 116] (by decide +kernel) (by decide +kernel)
set_option maxRecDepth 20000 in
theorem gX8_nodeAt_X8_depthOf : GoodIn wsX8_nodeAt (wsV RX8 89 RX8 yX8_depthOf wsX8_depthOf) := goodIn_app (goodIn_of _ (by decide +kernel)) ggX8_nodeAt_X8_depthOf
theorem dX8_nodeAt_0 : decode cX8_nodeAt 0 = .ok (.iload_n 1, 1) := by decide +kernel
theorem dX8_nodeAt_1 : decode cX8_nodeAt 1 = .ok (.iconst 0, 1) := by decide +kernel
theorem dX8_nodeAt_2 : decode cX8_nodeAt 2 = .ok (.aload_n 0, 1) := by decide +kernel
theorem dX8_nodeAt_3 : decode cX8_nodeAt 3 = .ok (.getfield 7, 3) := by decide +kernel
theorem dX8_nodeAt_6 : decode cX8_nodeAt 6 = .ok (.iconst 1, 1) := by decide +kernel
theorem dX8_nodeAt_7 : decode cX8_nodeAt 7 = .ok (.iaload, 1) := by decide +kernel
theorem dX8_nodeAt_8 : decode cX8_nodeAt 8 = .ok (.iconst 1, 1) := by decide +kernel
theorem dX8_nodeAt_9 : decode cX8_nodeAt 9 = .ok (.isub, 1) := by decide +kernel
theorem dX8_nodeAt_10 : decode cX8_nodeAt 10 = .ok (.invokestatic 56, 3) := by decide +kernel
theorem dX8_nodeAt_13 : decode cX8_nodeAt 13 = .ok (.ifCond .eq 19, 3) := by decide +kernel
theorem dX8_nodeAt_16 : decode cX8_nodeAt 16 = .ok (.iload_n 2, 1) := by decide +kernel
theorem dX8_nodeAt_17 : decode cX8_nodeAt 17 = .ok (.iconst 0, 1) := by decide +kernel
theorem dX8_nodeAt_18 : decode cX8_nodeAt 18 = .ok (.aload_n 0, 1) := by decide +kernel
theorem dX8_nodeAt_19 : decode cX8_nodeAt 19 = .ok (.getfield 7, 3) := by decide +kernel
theorem dX8_nodeAt_22 : decode cX8_nodeAt 22 = .ok (.iconst 2, 1) := by decide +kernel
theorem dX8_nodeAt_23 : decode cX8_nodeAt 23 = .ok (.iaload, 1) := by decide +kernel
theorem dX8_nodeAt_24 : decode cX8_nodeAt 24 = .ok (.iconst 1, 1) := by decide +kernel
theorem dX8_nodeAt_25 : decode cX8_nodeAt 25 = .ok (.isub, 1) := by decide +kernel
theorem dX8_nodeAt_26 : decode cX8_nodeAt 26 = .ok (.invokestatic 56, 3) := by decide +kernel
theorem dX8_nodeAt_29 : decode cX8_nodeAt 29 = .ok (.ifCond .ne 10, 3) := by decide +kernel
theorem dX8_nodeAt_32 : decode cX8_nodeAt 32 = .ok (.aload_n 0, 1) := by decide +kernel
theorem dX8_nodeAt_33 : decode cX8_nodeAt 33 = .ok (.bipush (-2), 2) := by decide +kernel
theorem dX8_nodeAt_35 : decode cX8_nodeAt 35 = .ok (.invokevirtual 64, 3) := by decide +kernel
theorem dX8_nodeAt_38 : decode cX8_nodeAt 38 = .ok (.ireturn, 1) := by decide +kernel
theorem dX8_nodeAt_39 : decode cX8_nodeAt 39 = .ok (.aload_n 0, 1) := by decide +kernel
theorem dX8_nodeAt_40 : decode cX8_nodeAt 40 = .ok (.invokevirtual 149, 3) := by decide +kernel
theorem dX8_nodeAt_43 : decode cX8_nodeAt 43 = .ok (.iconst 0, 1) := by decide +kernel
theorem dX8_nodeAt_44 : decode cX8_nodeAt 44 = .ok (.istore_n 3, 1) := by decide +kernel
theorem dX8_nodeAt_45 : decode cX8_nodeAt 45 = .ok (.iconst 1, 1) := by decide +kernel
theorem dX8_nodeAt_46 : decode cX8_nodeAt 46 = .ok (.istore 4, 2) := by decide +kernel
theorem dX8_nodeAt_48 : decode cX8_nodeAt 48 = .ok (.iload 4, 2) := by decide +kernel
theorem dX8_nodeAt_50 : decode cX8_nodeAt 50 = .ok (.aload_n 0, 1) := by decide +kernel
theorem dX8_nodeAt_51 : decode cX8_nodeAt 51 = .ok (.getfield 7, 3) := by decide +kernel
theorem dX8_nodeAt_54 : decode cX8_nodeAt 54 = .ok (.iconst 0, 1) := by decide +kernel
theorem dX8_nodeAt_55 : decode cX8_nodeAt 55 = .ok (.iaload, 1) := by decide +kernel
theorem dX8_nodeAt_56 : decode cX8_nodeAt 56 = .ok (.if_icmp .ge 104, 3) := by decide +kernel
theorem dX8_nodeAt_59 : decode cX8_nodeAt 59 = .ok (.iload_n 1, 1) := by decide +kernel
theorem dX8_nodeAt_60 : decode cX8_nodeAt 60 = .ok (.aload_n 0, 1) := by decide +kernel
theorem dX8_nodeAt_61 : decode cX8_nodeAt 61 = .ok (.getfield 25, 3) := by decide +kernel
theorem dX8_nodeAt_64 : decode cX8_nodeAt 64 = .ok (.iload 4, 2) := by decide +kernel
theorem dX8_nodeAt_66 : decode cX8_nodeAt 66 = .ok (.iaload, 1) := by decide +kernel
theorem dX8_nodeAt_67 : decode cX8_nodeAt 67 = .ok (.aload_n 0, 1) := by decide +kernel
theorem dX8_nodeAt_68 : decode cX8_nodeAt 68 = .ok (.getfield 25, 3) := by decide +kernel
theorem dX8_nodeAt_71 : decode cX8_nodeAt 71 = .ok (.iload 4, 2) := by decide +kernel
theorem dX8_nodeAt_73 : decode cX8_nodeAt 73 = .ok (.iaload, 1) := by decide +kernel
theorem dX8_nodeAt_74 : decode cX8_nodeAt 74 = .ok (.aload_n 0, 1) := by decide +kernel
theorem dX8_nodeAt_75 : decode cX8_nodeAt 75 = .ok (.getfield 31, 3) := by decide +kernel
theorem dX8_nodeAt_78 : decode cX8_nodeAt 78 = .ok (.iload 4, 2) := by decide +kernel
theorem dX8_nodeAt_80 : decode cX8_nodeAt 80 = .ok (.iaload, 1) := by decide +kernel
theorem dX8_nodeAt_81 : decode cX8_nodeAt 81 = .ok (.iadd, 1) := by decide +kernel
theorem dX8_nodeAt_82 : decode cX8_nodeAt 82 = .ok (.iconst 1, 1) := by decide +kernel
theorem dX8_nodeAt_83 : decode cX8_nodeAt 83 = .ok (.isub, 1) := by decide +kernel
theorem dX8_nodeAt_84 : decode cX8_nodeAt 84 = .ok (.invokestatic 56, 3) := by decide +kernel
theorem dX8_nodeAt_87 : decode cX8_nodeAt 87 = .ok (.ifCond .eq 38, 3) := by decide +kernel
theorem dX8_nodeAt_90 : decode cX8_nodeAt 90 = .ok (.iload_n 2, 1) := by decide +kernel
theorem dX8_nodeAt_91 : decode cX8_nodeAt 91 = .ok (.aload_n 0, 1) := by decide +kernel
theorem dX8_nodeAt_92 : decode cX8_nodeAt 92 = .ok (.getfield 28, 3) := by decide +kernel
theorem dX8_nodeAt_95 : decode cX8_nodeAt 95 = .ok (.iload 4, 2) := by decide +kernel
theorem dX8_nodeAt_97 : decode cX8_nodeAt 97 = .ok (.iaload, 1) := by decide +kernel
theorem dX8_nodeAt_98 : decode cX8_nodeAt 98 = .ok (.aload_n 0, 1) := by decide +kernel
theorem dX8_nodeAt_99 : decode cX8_nodeAt 99 = .ok (.getfield 28, 3) := by decide +kernel
theorem dX8_nodeAt_102 : decode cX8_nodeAt 102 = .ok (.iload 4, 2) := by decide +kernel
theorem dX8_nodeAt_104 : decode cX8_nodeAt 104 = .ok (.iaload, 1) := by decide +kernel
theorem dX8_nodeAt_105 : decode cX8_nodeAt 105 = .ok (.aload_n 0, 1) := by decide +kernel
theorem dX8_nodeAt_106 : decode cX8_nodeAt 106 = .ok (.getfield 34, 3) := by decide +kernel
theorem dX8_nodeAt_109 : decode cX8_nodeAt 109 = .ok (.iload 4, 2) := by decide +kernel
theorem dX8_nodeAt_111 : decode cX8_nodeAt 111 = .ok (.iaload, 1) := by decide +kernel
theorem dX8_nodeAt_112 : decode cX8_nodeAt 112 = .ok (.iadd, 1) := by decide +kernel
theorem dX8_nodeAt_113 : decode cX8_nodeAt 113 = .ok (.iconst 1, 1) := by decide +kernel
theorem dX8_nodeAt_114 : decode cX8_nodeAt 114 = .ok (.isub, 1) := by decide +kernel
theorem dX8_nodeAt_115 : decode cX8_nodeAt 115 = .ok (.invokestatic 56, 3) := by decide +kernel
theorem dX8_nodeAt_118 : decode cX8_nodeAt 118 = .ok (.ifCond .eq 7, 3) := by decide +kernel
theorem dX8_nodeAt_121 : decode cX8_nodeAt 121 = .ok (.iconst 1, 1) := by decide +kernel
theorem dX8_nodeAt_122 : decode cX8_nodeAt 122 = .ok (.goto 4, 3) := by decide +kernel
theorem dX8_nodeAt_125 : decode cX8_nodeAt 125 = .ok (.iconst 0, 1) := by decide +kernel
theorem dX8_nodeAt_126 : decode cX8_nodeAt 126 = .ok (.istore 5, 2) := by decide +kernel
theorem dX8_nodeAt_128 : decode cX8_nodeAt 128 = .ok (.iload 5, 2) := by decide +kernel
theorem dX8_nodeAt_130 : decode cX8_nodeAt 130 = .ok (.ifCond .eq 22, 3) := by decide +kernel
theorem dX8_nodeAt_133 : decode cX8_nodeAt 133 = .ok (.aload_n 0, 1) := by decide +kernel
theorem dX8_nodeAt_134 : decode cX8_nodeAt 134 = .ok (.iload 4, 2) := by decide +kernel
theorem dX8_nodeAt_136 : decode cX8_nodeAt 136 = .ok (.invokevirtual 89, 3) := by decide +kernel
theorem dX8_nodeAt_139 : decode cX8_nodeAt 139 = .ok (.aload_n 0, 1) := by decide +kernel
theorem dX8_nodeAt_140 : decode cX8_nodeAt 140 = .ok (.iload_n 3, 1) := by decide +kernel
theorem dX8_nodeAt_141 : decode cX8_nodeAt 141 = .ok (.invokevirtual 89, 3) := by decide +kernel
theorem dX8_nodeAt_144 : decode cX8_nodeAt 144 = .ok (.if_icmp .le 8, 3) := by decide +kernel
theorem dX8_nodeAt_147 : decode cX8_nodeAt 147 = .ok (.iload 4, 2) := by decide +kernel
theorem dX8_nodeAt_149 : decode cX8_nodeAt 149 = .ok (.goto 4, 3) := by decide +kernel
theorem dX8_nodeAt_152 : decode cX8_nodeAt 152 = .ok (.iload_n 3, 1) := by decide +kernel
theorem dX8_nodeAt_153 : decode cX8_nodeAt 153 = .ok (.istore_n 3, 1) := by decide +kernel
theorem dX8_nodeAt_154 : decode cX8_nodeAt 154 = .ok (.iinc 4 1, 3) := by decide +kernel
theorem dX8_nodeAt_157 : decode cX8_nodeAt 157 = .ok (.goto (-109), 3) := by decide +kernel
theorem dX8_nodeAt_160 : decode cX8_nodeAt 160 = .ok (.iload_n 3, 1) := by decide +kernel
theorem dX8_nodeAt_161 : decode cX8_nodeAt 161 = .ok (.ireturn, 1) := by decide +kernel
set_option maxRecDepth 20000 in
theorem ggX8_pixels_X8_childMany : GoodIn wsX8_pixels wsX8_childMany := goodIn_r _ [8, 1, 9, 10, 11, 12, 13, 14, 15, 16, 17, 18, 19, 20, 21, 22, 23, 24, 25, 26] (by decide +kernel) (by decide +kernel)
set_option maxRecDepth 20000 in
theorem gX8_pixels_X8_childMany : GoodIn wsX8_pixels (wsV RX8 68 RX8 yX8_childMany wsX8_childMany) := goodIn_app (goodIn_of _ (by decide +kernel)) ggX8_pixels_X8_childMany
theorem dX8_pixels_0 : decode cX8_pixels 0 = .ok (.iconst 0, 1) := by decide +kernel
theorem dX8_pixels_1 : decode cX8_pixels 1 = .ok (.istore_n 1, 1) := by decide +kernel
theorem dX8_pixels_2 : decode cX8_pixels 2 = .ok (.iconst 0, 1) := by decide +kernel
theorem dX8_pixels_3 : decode cX8_pixels 3 = .ok (.istore_n 2, 1) := by decide +kernel
theorem dX8_pixels_4 : decode cX8_pixels 4 = .ok (.iload_n 2, 1) := by decide +kernel
theorem dX8_pixels_5 : decode cX8_pixels 5 = .ok (.aload_n 0, 1) := by decide +kernel
theorem dX8_pixels_6 : decode cX8_pixels 6 = .ok (.getfield 7, 3) := by decide +kernel
theorem dX8_pixels_9 : decode cX8_pixels 9 = .ok (.iconst 0, 1) := by decide +kernel
theorem dX8_pixels_10 : decode cX8_pixels 10 = .ok (.iaload, 1) := by decide +kernel
theorem dX8_pixels_11 : decode cX8_pixels 11 = .ok (.if_icmp .ge 37, 3) := by decide +kernel
theorem dX8_pixels_14 : decode cX8_pixels 14 = .ok (.iload_n 1, 1) := by decide +kernel
theorem dX8_pixels_15 : decode cX8_pixels 15 = .ok (.aload_n 0, 1) := by decide +kernel
theorem dX8_pixels_16 : decode cX8_pixels 16 = .ok (.iload_n 2, 1) := by decide +kernel
theorem dX8_pixels_17 : decode cX8_pixels 17 = .ok (.invokevirtual 68, 3) := by decide +kernel
theorem dX8_pixels_20 : decode cX8_pixels 20 = .ok (.ifCond .ne 19, 3) := by decide +kernel
theorem dX8_pixels_23 : decode cX8_pixels 23 = .ok (.aload_n 0, 1) := by decide +kernel
theorem dX8_pixels_24 : decode cX8_pixels 24 = .ok (.getfield 31, 3) := by decide +kernel
theorem dX8_pixels_27 : decode cX8_pixels 27 = .ok (.iload_n 2, 1) := by decide +kernel
theorem dX8_pixels_28 : decode cX8_pixels 28 = .ok (.iaload, 1) := by decide +kernel
theorem dX8_pixels_29 : decode cX8_pixels 29 = .ok (.aload_n 0, 1) := by decide +kernel
theorem dX8_pixels_30 : decode cX8_pixels 30 = .ok (.getfield 34, 3) := by decide +kernel
theorem dX8_pixels_33 : decode cX8_pixels 33 = .ok (.iload_n 2, 1) := by decide +kernel
theorem dX8_pixels_34 : decode cX8_pixels 34 = .ok (.iaload, 1) := by decide +kernel
theorem dX8_pixels_35 : decode cX8_pixels 35 = .ok (.imul, 1) := by decide +kernel
theorem dX8_pixels_36 : decode cX8_pixels 36 = .ok (.goto 4, 3) := by decide +kernel
theorem dX8_pixels_39 : decode cX8_pixels 39 = .ok (.iconst 0, 1) := by decide +kernel
theorem dX8_pixels_40 : decode cX8_pixels 40 = .ok (.iadd, 1) := by decide +kernel
theorem dX8_pixels_41 : decode cX8_pixels 41 = .ok (.istore_n 1, 1) := by decide +kernel
theorem dX8_pixels_42 : decode cX8_pixels 42 = .ok (.iinc 2 1, 3) := by decide +kernel
theorem dX8_pixels_45 : decode cX8_pixels 45 = .ok (.goto (-41), 3) := by decide +kernel
theorem dX8_pixels_48 : decode cX8_pixels 48 = .ok (.iload_n 1, 1) := by decide +kernel
theorem dX8_pixels_49 : decode cX8_pixels 49 = .ok (.ireturn, 1) := by decide +kernel
set_option maxRecDepth 20000 in
theorem ggX8_leafPixels_X8_lays : GoodIn wsX8_leafPixels wsX8_lays := goodIn_r _ [5, 6, 7, 8, 9, 10, 11, 4, 12, 13, 14, 15, 16, 17, 18, 19, 20, 21, 22, 23, 24, 25, 26, 27, 28, 29, 30, 31, 32, 33, 34, 35, 36, 37, 38, 39, 40, 41, 42, 43, 44, 45, 46, 47, 48, 49, 50, 51, 52, 53, 54, 55, 56, 57, 58, 59, 60, 61, 62, 63, 64, 65, 66, 67, 68, 69, 70, 71, 72, 73, 74, 75, 76, 77, 78, 79, 80, 81, 82, 83, 84, 85, 86, 87, 88, 89, 90, 95, 96, 97, 98, 99, 100, 101, 102, 103, 104, 105, 106, 107, 108, 109, 110, 111, 112] (by decide +kernel) (by decide +kernel)
set_option maxRecDepth 20000 in
theorem gX8_leafPixels_X8_lays : GoodIn wsX8_leafPixels (wsV RX8 149 RX8 yX8_lays wsX8_lays) := goodIn_app (goodIn_of _ (by decide +kernel)) ggX8_leafPixels_X8_lays
set_option maxRecDepth 20000 in
theorem ggX8_leafPixels_X8_pixels : GoodIn wsX8_leafPixels wsX8_pixels := goodIn_r _ [94, 6, 27, 28, 13, 14, 15, 4, 16, 95, 96, 97, 98, 99, 100, 101, 102, 103, 104, 105, 106, 107, 108, 109, 110, 111, 112] (by decide +kernel) (by decide +kernel)
set_option maxRecDepth 20000 in
theorem gX8_leafPixels_X8_pixels : GoodIn wsX8_leafPixels (wsV RX8 152 RX8 yX8_pixels wsX8_pixels) := goodIn_app (goodIn_of _ (by decide +kernel)) ggX8_leafPixels_X8_pixels
theorem dX8_leafPixels_0 : decode cX8_leafPixels 0 = .ok (.aload_n 0, 1) := by decide +kernel
theorem dX8_leafPixels_1 : decode cX8_leafPixels 1 = .ok (.invokevirtual 149, 3) := by decide +kernel
theorem dX8_leafPixels_4 : decode cX8_leafPixels 4 = .ok (.aload_n 0, 1) := by decide +kernel
theorem dX8_leafPixels_5 : decode cX8_leafPixels 5 = .ok (.invokevirtual 152, 3) := by decide +kernel
theorem dX8_leafPixels_8 : decode cX8_leafPixels 8 = .ok (.ireturn, 1) := by decide +kernel
set_option maxRecDepth 20000 in
theorem ggX8_aspects_X8_childMany : GoodIn wsX8_aspects wsX8_childMany := goodIn_r _ [8, 1, 21, 22, 23, 24, 25, 26, 27, 28, 29, 30, 31, 32, 33, 34, 35, 36, 37, 38] (by decide +kernel) (by decide +kernel)
set_option maxRecDepth 20000 in
theorem gX8_aspects_X8_childMany : GoodIn wsX8_aspects (wsV RX8 68 RX8 yX8_childMany wsX8_childMany) := goodIn_app (goodIn_of _ (by decide +kernel)) ggX8_aspects_X8_childMany
set_option maxRecDepth 20000 in
theorem ggX8_aspects_Jxf58ca_floatToIntBits_5c35a : GoodIn wsX8_aspects wsJxf58ca_floatToIntBits_5c35a := goodIn_r _ [12, 13, 14, 15, 16, 17, 18, 19, 11, 20] (by decide +kernel) (by decide +kernel)
set_option maxRecDepth 20000 in
theorem gX8_aspects_Jxf58ca_floatToIntBits_5c35a : GoodIn wsX8_aspects (va_wsS RX8 155 yJxf58ca_floatToIntBits_5c35a wsJxf58ca_floatToIntBits_5c35a) := goodIn_app (goodIn_of _ (by decide +kernel)) ggX8_aspects_Jxf58ca_floatToIntBits_5c35a
theorem dX8_aspects_0 : decode cX8_aspects 0 = .ok (.fconst 0, 1) := by decide +kernel
theorem dX8_aspects_1 : decode cX8_aspects 1 = .ok (.fstore_n 2, 1) := by decide +kernel
theorem dX8_aspects_2 : decode cX8_aspects 2 = .ok (.fconst 0, 1) := by decide +kernel
theorem dX8_aspects_3 : decode cX8_aspects 3 = .ok (.fstore_n 3, 1) := by decide +kernel
theorem dX8_aspects_4 : decode cX8_aspects 4 = .ok (.iconst 0, 1) := by decide +kernel
theorem dX8_aspects_5 : decode cX8_aspects 5 = .ok (.istore 4, 2) := by decide +kernel
theorem dX8_aspects_7 : decode cX8_aspects 7 = .ok (.iconst 0, 1) := by decide +kernel
theorem dX8_aspects_8 : decode cX8_aspects 8 = .ok (.istore 5, 2) := by decide +kernel
theorem dX8_aspects_10 : decode cX8_aspects 10 = .ok (.iload 5, 2) := by decide +kernel
theorem dX8_aspects_12 : decode cX8_aspects 12 = .ok (.aload_n 0, 1) := by decide +kernel
theorem dX8_aspects_13 : decode cX8_aspects 13 = .ok (.getfield 7, 3) := by decide +kernel
theorem dX8_aspects_16 : decode cX8_aspects 16 = .ok (.iconst 0, 1) := by decide +kernel
theorem dX8_aspects_17 : decode cX8_aspects 17 = .ok (.iaload, 1) := by decide +kernel
theorem dX8_aspects_18 : decode cX8_aspects 18 = .ok (.if_icmp .ge 141, 3) := by decide +kernel
theorem dX8_aspects_21 : decode cX8_aspects 21 = .ok (.aload_n 0, 1) := by decide +kernel
theorem dX8_aspects_22 : decode cX8_aspects 22 = .ok (.iload 5, 2) := by decide +kernel
theorem dX8_aspects_24 : decode cX8_aspects 24 = .ok (.invokevirtual 68, 3) := by decide +kernel
theorem dX8_aspects_27 : decode cX8_aspects 27 = .ok (.ifCond .ne 126, 3) := by decide +kernel
theorem dX8_aspects_30 : decode cX8_aspects 30 = .ok (.aload_n 0, 1) := by decide +kernel
theorem dX8_aspects_31 : decode cX8_aspects 31 = .ok (.getfield 31, 3) := by decide +kernel
theorem dX8_aspects_34 : decode cX8_aspects 34 = .ok (.iload 5, 2) := by decide +kernel
theorem dX8_aspects_36 : decode cX8_aspects 36 = .ok (.iaload, 1) := by decide +kernel
theorem dX8_aspects_37 : decode cX8_aspects 37 = .ok (.ifCond .le 116, 3) := by decide +kernel
theorem dX8_aspects_40 : decode cX8_aspects 40 = .ok (.aload_n 0, 1) := by decide +kernel
theorem dX8_aspects_41 : decode cX8_aspects 41 = .ok (.getfield 34, 3) := by decide +kernel
theorem dX8_aspects_44 : decode cX8_aspects 44 = .ok (.iload 5, 2) := by decide +kernel
theorem dX8_aspects_46 : decode cX8_aspects 46 = .ok (.iaload, 1) := by decide +kernel
theorem dX8_aspects_47 : decode cX8_aspects 47 = .ok (.ifCond .le 106, 3) := by decide +kernel
theorem dX8_aspects_50 : decode cX8_aspects 50 = .ok (.aload_n 0, 1) := by decide +kernel
theorem dX8_aspects_51 : decode cX8_aspects 51 = .ok (.getfield 31, 3) := by decide +kernel
theorem dX8_aspects_54 : decode cX8_aspects 54 = .ok (.iload 5, 2) := by decide +kernel
theorem dX8_aspects_56 : decode cX8_aspects 56 = .ok (.iaload, 1) := by decide +kernel
theorem dX8_aspects_57 : decode cX8_aspects 57 = .ok (.aload_n 0, 1) := by decide +kernel
theorem dX8_aspects_58 : decode cX8_aspects 58 = .ok (.getfield 34, 3) := by decide +kernel
theorem dX8_aspects_61 : decode cX8_aspects 61 = .ok (.iload 5, 2) := by decide +kernel
theorem dX8_aspects_63 : decode cX8_aspects 63 = .ok (.iaload, 1) := by decide +kernel
theorem dX8_aspects_64 : decode cX8_aspects 64 = .ok (.if_icmp .le 13, 3) := by decide +kernel
theorem dX8_aspects_67 : decode cX8_aspects 67 = .ok (.aload_n 0, 1) := by decide +kernel
theorem dX8_aspects_68 : decode cX8_aspects 68 = .ok (.getfield 31, 3) := by decide +kernel
theorem dX8_aspects_71 : decode cX8_aspects 71 = .ok (.iload 5, 2) := by decide +kernel
theorem dX8_aspects_73 : decode cX8_aspects 73 = .ok (.iaload, 1) := by decide +kernel
theorem dX8_aspects_74 : decode cX8_aspects 74 = .ok (.goto 10, 3) := by decide +kernel
theorem dX8_aspects_77 : decode cX8_aspects 77 = .ok (.aload_n 0, 1) := by decide +kernel
theorem dX8_aspects_78 : decode cX8_aspects 78 = .ok (.getfield 34, 3) := by decide +kernel
theorem dX8_aspects_81 : decode cX8_aspects 81 = .ok (.iload 5, 2) := by decide +kernel
theorem dX8_aspects_83 : decode cX8_aspects 83 = .ok (.iaload, 1) := by decide +kernel
theorem dX8_aspects_84 : decode cX8_aspects 84 = .ok (.istore 6, 2) := by decide +kernel
theorem dX8_aspects_86 : decode cX8_aspects 86 = .ok (.aload_n 0, 1) := by decide +kernel
theorem dX8_aspects_87 : decode cX8_aspects 87 = .ok (.getfield 31, 3) := by decide +kernel
theorem dX8_aspects_90 : decode cX8_aspects 90 = .ok (.iload 5, 2) := by decide +kernel
theorem dX8_aspects_92 : decode cX8_aspects 92 = .ok (.iaload, 1) := by decide +kernel
theorem dX8_aspects_93 : decode cX8_aspects 93 = .ok (.aload_n 0, 1) := by decide +kernel
theorem dX8_aspects_94 : decode cX8_aspects 94 = .ok (.getfield 34, 3) := by decide +kernel
theorem dX8_aspects_97 : decode cX8_aspects 97 = .ok (.iload 5, 2) := by decide +kernel
theorem dX8_aspects_99 : decode cX8_aspects 99 = .ok (.iaload, 1) := by decide +kernel
theorem dX8_aspects_100 : decode cX8_aspects 100 = .ok (.if_icmp .le 13, 3) := by decide +kernel
theorem dX8_aspects_103 : decode cX8_aspects 103 = .ok (.aload_n 0, 1) := by decide +kernel
theorem dX8_aspects_104 : decode cX8_aspects 104 = .ok (.getfield 34, 3) := by decide +kernel
theorem dX8_aspects_107 : decode cX8_aspects 107 = .ok (.iload 5, 2) := by decide +kernel
theorem dX8_aspects_109 : decode cX8_aspects 109 = .ok (.iaload, 1) := by decide +kernel
theorem dX8_aspects_110 : decode cX8_aspects 110 = .ok (.goto 10, 3) := by decide +kernel
theorem dX8_aspects_113 : decode cX8_aspects 113 = .ok (.aload_n 0, 1) := by decide +kernel
theorem dX8_aspects_114 : decode cX8_aspects 114 = .ok (.getfield 31, 3) := by decide +kernel
theorem dX8_aspects_117 : decode cX8_aspects 117 = .ok (.iload 5, 2) := by decide +kernel
theorem dX8_aspects_119 : decode cX8_aspects 119 = .ok (.iaload, 1) := by decide +kernel
theorem dX8_aspects_120 : decode cX8_aspects 120 = .ok (.istore 7, 2) := by decide +kernel
theorem dX8_aspects_122 : decode cX8_aspects 122 = .ok (.iload 6, 2) := by decide +kernel
theorem dX8_aspects_124 : decode cX8_aspects 124 = .ok (.i2f, 1) := by decide +kernel
theorem dX8_aspects_125 : decode cX8_aspects 125 = .ok (.iload 7, 2) := by decide +kernel
theorem dX8_aspects_127 : decode cX8_aspects 127 = .ok (.i2f, 1) := by decide +kernel
theorem dX8_aspects_128 : decode cX8_aspects 128 = .ok (.fdiv, 1) := by decide +kernel
theorem dX8_aspects_129 : decode cX8_aspects 129 = .ok (.fstore 8, 2) := by decide +kernel
theorem dX8_aspects_131 : decode cX8_aspects 131 = .ok (.fload 8, 2) := by decide +kernel
theorem dX8_aspects_133 : decode cX8_aspects 133 = .ok (.fload_n 2, 1) := by decide +kernel
theorem dX8_aspects_134 : decode cX8_aspects 134 = .ok (.fcmp .l, 1) := by decide +kernel
theorem dX8_aspects_135 : decode cX8_aspects 135 = .ok (.ifCond .le 8, 3) := by decide +kernel
theorem dX8_aspects_138 : decode cX8_aspects 138 = .ok (.fload 8, 2) := by decide +kernel
theorem dX8_aspects_140 : decode cX8_aspects 140 = .ok (.goto 4, 3) := by decide +kernel
theorem dX8_aspects_143 : decode cX8_aspects 143 = .ok (.fload_n 2, 1) := by decide +kernel
theorem dX8_aspects_144 : decode cX8_aspects 144 = .ok (.fstore_n 2, 1) := by decide +kernel
theorem dX8_aspects_145 : decode cX8_aspects 145 = .ok (.fload_n 3, 1) := by decide +kernel
theorem dX8_aspects_146 : decode cX8_aspects 146 = .ok (.fload 8, 2) := by decide +kernel
theorem dX8_aspects_148 : decode cX8_aspects 148 = .ok (.fadd, 1) := by decide +kernel
theorem dX8_aspects_149 : decode cX8_aspects 149 = .ok (.fstore_n 3, 1) := by decide +kernel
theorem dX8_aspects_150 : decode cX8_aspects 150 = .ok (.iinc 4 1, 3) := by decide +kernel
theorem dX8_aspects_153 : decode cX8_aspects 153 = .ok (.iinc 5 1, 3) := by decide +kernel
theorem dX8_aspects_156 : decode cX8_aspects 156 = .ok (.goto (-146), 3) := by decide +kernel
theorem dX8_aspects_159 : decode cX8_aspects 159 = .ok (.iload 4, 2) := by decide +kernel
theorem dX8_aspects_161 : decode cX8_aspects 161 = .ok (.ifCond .ne 7, 3) := by decide +kernel
theorem dX8_aspects_164 : decode cX8_aspects 164 = .ok (.iconst (-1), 1) := by decide +kernel
theorem dX8_aspects_165 : decode cX8_aspects 165 = .ok (.goto 19, 3) := by decide +kernel
theorem dX8_aspects_168 : decode cX8_aspects 168 = .ok (.iload_n 1, 1) := by decide +kernel
theorem dX8_aspects_169 : decode cX8_aspects 169 = .ok (.ifCond .eq 7, 3) := by decide +kernel
theorem dX8_aspects_172 : decode cX8_aspects 172 = .ok (.fload_n 2, 1) := by decide +kernel
theorem dX8_aspects_173 : decode cX8_aspects 173 = .ok (.goto 8, 3) := by decide +kernel
theorem dX8_aspects_176 : decode cX8_aspects 176 = .ok (.fload_n 3, 1) := by decide +kernel
theorem dX8_aspects_177 : decode cX8_aspects 177 = .ok (.iload 4, 2) := by decide +kernel
theorem dX8_aspects_179 : decode cX8_aspects 179 = .ok (.i2f, 1) := by decide +kernel
theorem dX8_aspects_180 : decode cX8_aspects 180 = .ok (.fdiv, 1) := by decide +kernel
theorem dX8_aspects_181 : decode cX8_aspects 181 = .ok (.invokestatic 155, 3) := by decide +kernel
theorem dX8_aspects_184 : decode cX8_aspects 184 = .ok (.ireturn, 1) := by decide +kernel
set_option maxRecDepth 20000 in
theorem ggX8_worstAspect_X8_lays : GoodIn wsX8_worstAspect wsX8_lays := goodIn_r _ [5, 6, 7, 8, 9, 10, 11, 4, 12, 13, 14, 15, 16, 17, 18, 19, 20, 21, 22, 23, 24, 25, 26, 27, 28, 29, 30, 31, 32, 33, 34, 35, 36, 37, 38, 39, 40, 41, 42, 43, 44, 45, 46, 47, 48, 49, 50, 51, 52, 53, 54, 55, 56, 57, 58, 59, 60, 61, 62, 63, 64, 65, 66, 67, 68, 69, 70, 71, 72, 73, 74, 75, 76, 77, 78, 79, 80, 81, 82, 83, 84, 85, 86, 87, 88, 89, 90, 107, 108, 109, 110, 111, 112, 113, 114, 115, 116, 117, 118, 119, 120, 121, 122, 123, 124] (by decide +kernel) (by decide +kernel)
set_option maxRecDepth 20000 in
theorem gX8_worstAspect_X8_lays : GoodIn wsX8_worstAspect (wsV RX8 149 RX8 yX8_lays wsX8_lays) := goodIn_app (goodIn_of _ (by decide +kernel)) ggX8_worstAspect_X8_lays
set_option maxRecDepth 20000 in
theorem ggX8_worstAspect_X8_aspects : GoodIn wsX8_worstAspect wsX8_aspects := goodIn_r _ [94, 6, 27, 28, 13, 14, 15, 4, 16, 95, 96, 97, 98, 99, 100, 101, 102, 103, 104, 105, 106, 107, 108, 109, 110, 111, 112, 113, 114, 115, 116, 117, 118, 119, 120, 121, 122, 123, 124] (by decide +kernel) (by decide +kernel)
set_option maxRecDepth 20000 in
theorem gX8_worstAspect_X8_aspects : GoodIn wsX8_worstAspect (wsV RX8 161 RX8 yX8_aspects wsX8_aspects) := goodIn_app (goodIn_of _ (by decide +kernel)) ggX8_worstAspect_X8_aspects
theorem dX8_worstAspect_0 : decode cX8_worstAspect 0 = .ok (.aload_n 0, 1) := by decide +kernel
theorem dX8_worstAspect_1 : decode cX8_worstAspect 1 = .ok (.invokevirtual 149, 3) := by decide +kernel
theorem dX8_worstAspect_4 : decode cX8_worstAspect 4 = .ok (.aload_n 0, 1) := by decide +kernel
theorem dX8_worstAspect_5 : decode cX8_worstAspect 5 = .ok (.iconst 1, 1) := by decide +kernel
theorem dX8_worstAspect_6 : decode cX8_worstAspect 6 = .ok (.invokevirtual 161, 3) := by decide +kernel
theorem dX8_worstAspect_9 : decode cX8_worstAspect 9 = .ok (.ireturn, 1) := by decide +kernel
set_option maxRecDepth 20000 in
theorem ggX8_averageAspect_X8_lays : GoodIn wsX8_averageAspect wsX8_lays := goodIn_r _ [5, 6, 7, 8, 9, 10, 11, 4, 12, 13, 14, 15, 16, 17, 18, 19, 20, 21, 22, 23, 24, 25, 26, 27, 28, 29, 30, 31, 32, 33, 34, 35, 36, 37, 38, 39, 40, 41, 42, 43, 44, 45, 46, 47, 48, 49, 50, 51, 52, 53, 54, 55, 56, 57, 58, 59, 60, 61, 62, 63, 64, 65, 66, 67, 68, 69, 70, 71, 72, 73, 74, 75, 76, 77, 78, 79, 80, 81, 82, 83, 84, 85, 86, 87, 88, 89, 90, 107, 108, 109, 110, 111, 112, 113, 114, 115, 116, 117, 118, 119, 120, 121, 122, 123, 124] (by decide +kernel) (by decide +kernel)
set_option maxRecDepth 20000 in
theorem gX8_averageAspect_X8_lays : GoodIn wsX8_averageAspect (wsV RX8 149 RX8 yX8_lays wsX8_lays) := goodIn_app (goodIn_of _ (by decide +kernel)) ggX8_averageAspect_X8_lays
set_option maxRecDepth 20000 in
theorem ggX8_averageAspect_X8_aspects : GoodIn wsX8_averageAspect wsX8_aspects := goodIn_r _ [94, 6, 27, 28, 13, 14, 15, 4, 16, 95, 96, 97, 98, 99, 100, 101, 102, 103, 104, 105, 106, 107, 108, 109, 110, 111, 112, 113, 114, 115, 116, 117, 118, 119, 120, 121, 122, 123, 124] (by decide +kernel) (by decide +kernel)
set_option maxRecDepth 20000 in
theorem gX8_averageAspect_X8_aspects : GoodIn wsX8_averageAspect (wsV RX8 161 RX8 yX8_aspects wsX8_aspects) := goodIn_app (goodIn_of _ (by decide +kernel)) ggX8_averageAspect_X8_aspects
theorem dX8_averageAspect_0 : decode cX8_averageAspect 0 = .ok (.aload_n 0, 1) := by decide +kernel
theorem dX8_averageAspect_1 : decode cX8_averageAspect 1 = .ok (.invokevirtual 149, 3) := by decide +kernel
theorem dX8_averageAspect_4 : decode cX8_averageAspect 4 = .ok (.aload_n 0, 1) := by decide +kernel
theorem dX8_averageAspect_5 : decode cX8_averageAspect 5 = .ok (.iconst 0, 1) := by decide +kernel
theorem dX8_averageAspect_6 : decode cX8_averageAspect 6 = .ok (.invokevirtual 161, 3) := by decide +kernel
theorem dX8_averageAspect_9 : decode cX8_averageAspect 9 = .ok (.ireturn, 1) := by decide +kernel
theorem dX8_far_0 : decode cX8_far 0 = .ok (.iload_n 0, 1) := by decide +kernel
