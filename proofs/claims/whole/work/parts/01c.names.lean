theorem dX1_placeChildren_79 : decode cX1_placeChildren 79 = .ok (.iload_n 1, 1) := by decide +kernel
theorem dX1_placeChildren_80 : decode cX1_placeChildren 80 = .ok (.iaload, 1) := by decide +kernel
theorem dX1_placeChildren_81 : decode cX1_placeChildren 81 = .ok (.iadd, 1) := by decide +kernel
theorem dX1_placeChildren_82 : decode cX1_placeChildren 82 = .ok (.istore 5, 2) := by decide +kernel
theorem dX1_placeChildren_84 : decode cX1_placeChildren 84 = .ok (.aload_n 0, 1) := by decide +kernel
theorem dX1_placeChildren_85 : decode cX1_placeChildren 85 = .ok (.getfield 32, 3) := by decide +kernel
theorem dX1_placeChildren_88 : decode cX1_placeChildren 88 = .ok (.iload_n 1, 1) := by decide +kernel
theorem dX1_placeChildren_89 : decode cX1_placeChildren 89 = .ok (.iaload, 1) := by decide +kernel
theorem dX1_placeChildren_90 : decode cX1_placeChildren 90 = .ok (.istore 6, 2) := by decide +kernel
theorem dX1_placeChildren_92 : decode cX1_placeChildren 92 = .ok (.iload 6, 2) := by decide +kernel
theorem dX1_placeChildren_94 : decode cX1_placeChildren 94 = .ok (.iload 5, 2) := by decide +kernel
theorem dX1_placeChildren_96 : decode cX1_placeChildren 96 = .ok (.if_icmp .ge 56, 3) := by decide +kernel
theorem dX1_placeChildren_99 : decode cX1_placeChildren 99 = .ok (.aload_n 0, 1) := by decide +kernel
theorem dX1_placeChildren_100 : decode cX1_placeChildren 100 = .ok (.getfield 29, 3) := by decide +kernel
theorem dX1_placeChildren_103 : decode cX1_placeChildren 103 = .ok (.iload 6, 2) := by decide +kernel
theorem dX1_placeChildren_105 : decode cX1_placeChildren 105 = .ok (.iaload, 1) := by decide +kernel
theorem dX1_placeChildren_106 : decode cX1_placeChildren 106 = .ok (.istore 7, 2) := by decide +kernel
theorem dX1_placeChildren_108 : decode cX1_placeChildren 108 = .ok (.aload_n 0, 1) := by decide +kernel
theorem dX1_placeChildren_109 : decode cX1_placeChildren 109 = .ok (.getfield 18, 3) := by decide +kernel
theorem dX1_placeChildren_112 : decode cX1_placeChildren 112 = .ok (.iload 7, 2) := by decide +kernel
theorem dX1_placeChildren_114 : decode cX1_placeChildren 114 = .ok (.iload 4, 2) := by decide +kernel
theorem dX1_placeChildren_116 : decode cX1_placeChildren 116 = .ok (.bastore, 1) := by decide +kernel
theorem dX1_placeChildren_117 : decode cX1_placeChildren 117 = .ok (.aload_n 0, 1) := by decide +kernel
theorem dX1_placeChildren_118 : decode cX1_placeChildren 118 = .ok (.getfield 25, 3) := by decide +kernel
theorem dX1_placeChildren_121 : decode cX1_placeChildren 121 = .ok (.iload 7, 2) := by decide +kernel
theorem dX1_placeChildren_123 : decode cX1_placeChildren 123 = .ok (.iconst 0, 1) := by decide +kernel
theorem dX1_placeChildren_124 : decode cX1_placeChildren 124 = .ok (.iconst 0, 1) := by decide +kernel
theorem dX1_placeChildren_125 : decode cX1_placeChildren 125 = .ok (.iconst 0, 1) := by decide +kernel
theorem dX1_placeChildren_126 : decode cX1_placeChildren 126 = .ok (.iconst 0, 1) := by decide +kernel
theorem dX1_placeChildren_127 : decode cX1_placeChildren 127 = .ok (.invokevirtual 69, 3) := by decide +kernel
theorem dX1_placeChildren_130 : decode cX1_placeChildren 130 = .ok (.aload_n 0, 1) := by decide +kernel
theorem dX1_placeChildren_131 : decode cX1_placeChildren 131 = .ok (.getfield 41, 3) := by decide +kernel
theorem dX1_placeChildren_134 : decode cX1_placeChildren 134 = .ok (.iload 7, 2) := by decide +kernel
theorem dX1_placeChildren_136 : decode cX1_placeChildren 136 = .ok (.aload_n 0, 1) := by decide +kernel
theorem dX1_placeChildren_137 : decode cX1_placeChildren 137 = .ok (.getfield 9, 3) := by decide +kernel
theorem dX1_placeChildren_140 : decode cX1_placeChildren 140 = .ok (.iload 7, 2) := by decide +kernel
theorem dX1_placeChildren_142 : decode cX1_placeChildren 142 = .ok (.iaload, 1) := by decide +kernel
theorem dX1_placeChildren_143 : decode cX1_placeChildren 143 = .ok (.invokevirtual 109, 3) := by decide +kernel
theorem dX1_placeChildren_146 : decode cX1_placeChildren 146 = .ok (.iinc 6 1, 3) := by decide +kernel
theorem dX1_placeChildren_149 : decode cX1_placeChildren 149 = .ok (.goto (-57), 3) := by decide +kernel
theorem dX1_placeChildren_152 : decode cX1_placeChildren 152 = .ok (.iload 4, 2) := by decide +kernel
theorem dX1_placeChildren_154 : decode cX1_placeChildren 154 = .ok (.ifCond .ne 11, 3) := by decide +kernel
theorem dX1_placeChildren_157 : decode cX1_placeChildren 157 = .ok (.aload_n 0, 1) := by decide +kernel
theorem dX1_placeChildren_158 : decode cX1_placeChildren 158 = .ok (.iload_n 1, 1) := by decide +kernel
theorem dX1_placeChildren_159 : decode cX1_placeChildren 159 = .ok (.invokevirtual 45, 3) := by decide +kernel
theorem dX1_placeChildren_162 : decode cX1_placeChildren 162 = .ok (.ifCond .eq 4, 3) := by decide +kernel
theorem dX1_placeChildren_165 : decode cX1_placeChildren 165 = .ok (.return_, 1) := by decide +kernel
theorem dX1_placeChildren_166 : decode cX1_placeChildren 166 = .ok (.aload_n 2, 1) := by decide +kernel
theorem dX1_placeChildren_167 : decode cX1_placeChildren 167 = .ok (.getfield 113, 3) := by decide +kernel
theorem dX1_placeChildren_170 : decode cX1_placeChildren 170 = .ok (.lookupswitch 70 #[(0, 26), (1, 56)], 26) := by decide +kernel
theorem dX1_placeChildren_196 : decode cX1_placeChildren 196 = .ok (.aload_n 0, 1) := by decide +kernel
theorem dX1_placeChildren_197 : decode cX1_placeChildren 197 = .ok (.getfield 41, 3) := by decide +kernel
theorem dX1_placeChildren_200 : decode cX1_placeChildren 200 = .ok (.aload_n 0, 1) := by decide +kernel
theorem dX1_placeChildren_201 : decode cX1_placeChildren 201 = .ok (.getfield 15, 3) := by decide +kernel
theorem dX1_placeChildren_204 : decode cX1_placeChildren 204 = .ok (.iload_n 1, 1) := by decide +kernel
theorem dX1_placeChildren_205 : decode cX1_placeChildren 205 = .ok (.iaload, 1) := by decide +kernel
theorem dX1_placeChildren_206 : decode cX1_placeChildren 206 = .ok (.iconst 2, 1) := by decide +kernel
theorem dX1_placeChildren_207 : decode cX1_placeChildren 207 = .ok (.irem, 1) := by decide +kernel
theorem dX1_placeChildren_208 : decode cX1_placeChildren 208 = .ok (.ifCond .ne 7, 3) := by decide +kernel
theorem dX1_placeChildren_211 : decode cX1_placeChildren 211 = .ok (.iconst 1, 1) := by decide +kernel
theorem dX1_placeChildren_212 : decode cX1_placeChildren 212 = .ok (.goto 4, 3) := by decide +kernel
theorem dX1_placeChildren_215 : decode cX1_placeChildren 215 = .ok (.iconst 0, 1) := by decide +kernel
theorem dX1_placeChildren_216 : decode cX1_placeChildren 216 = .ok (.aload_n 0, 1) := by decide +kernel
theorem dX1_placeChildren_217 : decode cX1_placeChildren 217 = .ok (.getfield 25, 3) := by decide +kernel
theorem dX1_placeChildren_220 : decode cX1_placeChildren 220 = .ok (.invokevirtual 116, 3) := by decide +kernel
theorem dX1_placeChildren_223 : decode cX1_placeChildren 223 = .ok (.goto 28, 3) := by decide +kernel
theorem dX1_placeChildren_226 : decode cX1_placeChildren 226 = .ok (.aload_n 0, 1) := by decide +kernel
theorem dX1_placeChildren_227 : decode cX1_placeChildren 227 = .ok (.getfield 41, 3) := by decide +kernel
theorem dX1_placeChildren_230 : decode cX1_placeChildren 230 = .ok (.aload_n 0, 1) := by decide +kernel
theorem dX1_placeChildren_231 : decode cX1_placeChildren 231 = .ok (.getfield 25, 3) := by decide +kernel
theorem dX1_placeChildren_234 : decode cX1_placeChildren 234 = .ok (.invokevirtual 120, 3) := by decide +kernel
theorem dX1_placeChildren_237 : decode cX1_placeChildren 237 = .ok (.goto 14, 3) := by decide +kernel
theorem dX1_placeChildren_240 : decode cX1_placeChildren 240 = .ok (.aload_n 0, 1) := by decide +kernel
theorem dX1_placeChildren_241 : decode cX1_placeChildren 241 = .ok (.getfield 41, 3) := by decide +kernel
theorem dX1_placeChildren_244 : decode cX1_placeChildren 244 = .ok (.aload_n 0, 1) := by decide +kernel
theorem dX1_placeChildren_245 : decode cX1_placeChildren 245 = .ok (.getfield 25, 3) := by decide +kernel
theorem dX1_placeChildren_248 : decode cX1_placeChildren 248 = .ok (.invokevirtual 124, 3) := by decide +kernel
theorem dX1_placeChildren_251 : decode cX1_placeChildren 251 = .ok (.return_, 1) := by decide +kernel
set_option maxRecDepth 20000 in
theorem ggX2_init_X0_init : GoodIn wsX2_init wsX0_init := goodIn_r _ [19, 20, 2, 3] (by decide +kernel) (by decide +kernel)
set_option maxRecDepth 20000 in
theorem gX2_init_X0_init_n20 : GoodIn wsX2_init (wsX0_init) := ggX2_init_X0_init
set_option maxRecDepth 20000 in
theorem ggX2_init_X4_init : GoodIn wsX2_init wsX4_init := goodIn_r _ [22, 23, 2, 3, 4, 24, 25, 26, 39, 40, 41, 42] (by decide +kernel) (by decide +kernel)
set_option maxRecDepth 20000 in
theorem gX2_init_X4_init_n30 : GoodIn wsX2_init (wsX4_init) := ggX2_init_X4_init
theorem dX2_init_0 : decode cX2_init 0 = .ok (.aload_n 0, 1) := by decide +kernel
theorem dX2_init_1 : decode cX2_init 1 = .ok (.invokespecial 3, 3) := by decide +kernel
theorem dX2_init_4 : decode cX2_init 4 = .ok (.aload_n 0, 1) := by decide +kernel
theorem dX2_init_5 : decode cX2_init 5 = .ok (.bipush 24, 2) := by decide +kernel
theorem dX2_init_7 : decode cX2_init 7 = .ok (.newarray .int, 2) := by decide +kernel
theorem dX2_init_9 : decode cX2_init 9 = .ok (.putfield 9, 3) := by decide +kernel
theorem dX2_init_12 : decode cX2_init 12 = .ok (.aload_n 0, 1) := by decide +kernel
theorem dX2_init_13 : decode cX2_init 13 = .ok (.bipush 24, 2) := by decide +kernel
theorem dX2_init_15 : decode cX2_init 15 = .ok (.newarray .int, 2) := by decide +kernel
theorem dX2_init_17 : decode cX2_init 17 = .ok (.putfield 15, 3) := by decide +kernel
theorem dX2_init_20 : decode cX2_init 20 = .ok (.aload_n 0, 1) := by decide +kernel
theorem dX2_init_21 : decode cX2_init 21 = .ok (.new 18, 3) := by decide +kernel
theorem dX2_init_24 : decode cX2_init 24 = .ok (.dup, 1) := by decide +kernel
theorem dX2_init_25 : decode cX2_init 25 = .ok (.invokespecial 20, 3) := by decide +kernel
theorem dX2_init_28 : decode cX2_init 28 = .ok (.putfield 21, 3) := by decide +kernel
theorem dX2_init_31 : decode cX2_init 31 = .ok (.aload_n 0, 1) := by decide +kernel
theorem dX2_init_32 : decode cX2_init 32 = .ok (.new 18, 3) := by decide +kernel
theorem dX2_init_35 : decode cX2_init 35 = .ok (.dup, 1) := by decide +kernel
theorem dX2_init_36 : decode cX2_init 36 = .ok (.invokespecial 20, 3) := by decide +kernel
theorem dX2_init_39 : decode cX2_init 39 = .ok (.putfield 25, 3) := by decide +kernel
theorem dX2_init_42 : decode cX2_init 42 = .ok (.aload_n 0, 1) := by decide +kernel
theorem dX2_init_43 : decode cX2_init 43 = .ok (.new 28, 3) := by decide +kernel
theorem dX2_init_46 : decode cX2_init 46 = .ok (.dup, 1) := by decide +kernel
theorem dX2_init_47 : decode cX2_init 47 = .ok (.invokespecial 30, 3) := by decide +kernel
theorem dX2_init_50 : decode cX2_init 50 = .ok (.putfield 31, 3) := by decide +kernel
theorem dX2_init_53 : decode cX2_init 53 = .ok (.aload_n 0, 1) := by decide +kernel
theorem dX2_init_54 : decode cX2_init 54 = .ok (.new 28, 3) := by decide +kernel
theorem dX2_init_57 : decode cX2_init 57 = .ok (.dup, 1) := by decide +kernel
theorem dX2_init_58 : decode cX2_init 58 = .ok (.invokespecial 30, 3) := by decide +kernel
theorem dX2_init_61 : decode cX2_init 61 = .ok (.putfield 35, 3) := by decide +kernel
theorem dX2_init_64 : decode cX2_init 64 = .ok (.aload_n 0, 1) := by decide +kernel
theorem dX2_init_65 : decode cX2_init 65 = .ok (.bipush 24, 2) := by decide +kernel
theorem dX2_init_67 : decode cX2_init 67 = .ok (.newarray .int, 2) := by decide +kernel
theorem dX2_init_69 : decode cX2_init 69 = .ok (.putfield 38, 3) := by decide +kernel
theorem dX2_init_72 : decode cX2_init 72 = .ok (.return_, 1) := by decide +kernel
set_option maxRecDepth 20000 in
theorem ggX2_open_X0_set : GoodIn wsX2_open wsX0_set := goodIn_r _ [7, 8, 9, 10, 11, 20, 21, 22, 23] (by decide +kernel) (by decide +kernel)
set_option maxRecDepth 20000 in
theorem gX2_open_X0_set : GoodIn wsX2_open (wsV RX2 45 RX0 yX0_set wsX0_set) := goodIn_app (goodIn_of _ (by decide +kernel)) ggX2_open_X0_set
theorem dX2_open_0 : decode cX2_open 0 = .ok (.aload_n 0, 1) := by decide +kernel
theorem dX2_open_1 : decode cX2_open 1 = .ok (.iconst 0, 1) := by decide +kernel
theorem dX2_open_2 : decode cX2_open 2 = .ok (.putfield 41, 3) := by decide +kernel
theorem dX2_open_5 : decode cX2_open 5 = .ok (.aload_n 0, 1) := by decide +kernel
theorem dX2_open_6 : decode cX2_open 6 = .ok (.getfield 21, 3) := by decide +kernel
theorem dX2_open_9 : decode cX2_open 9 = .ok (.iload_n 1, 1) := by decide +kernel
theorem dX2_open_10 : decode cX2_open 10 = .ok (.iload_n 2, 1) := by decide +kernel
theorem dX2_open_11 : decode cX2_open 11 = .ok (.iload_n 3, 1) := by decide +kernel
theorem dX2_open_12 : decode cX2_open 12 = .ok (.iload 4, 2) := by decide +kernel
theorem dX2_open_14 : decode cX2_open 14 = .ok (.invokevirtual 45, 3) := by decide +kernel
theorem dX2_open_17 : decode cX2_open 17 = .ok (.return_, 1) := by decide +kernel
set_option maxRecDepth 20000 in
theorem ggX2_hasNoRoom_X0_isEmpty : GoodIn wsX2_hasNoRoom wsX0_isEmpty := goodIn_r _ [6, 7, 8, 17, 18, 19, 20] (by decide +kernel) (by decide +kernel)
set_option maxRecDepth 20000 in
theorem gX2_hasNoRoom_X0_isEmpty : GoodIn wsX2_hasNoRoom (wsV RX2 49 RX0 yX0_isEmpty wsX0_isEmpty) := goodIn_app (goodIn_of _ (by decide +kernel)) ggX2_hasNoRoom_X0_isEmpty
theorem dX2_hasNoRoom_0 : decode cX2_hasNoRoom 0 = .ok (.aload_n 0, 1) := by decide +kernel
theorem dX2_hasNoRoom_1 : decode cX2_hasNoRoom 1 = .ok (.getfield 21, 3) := by decide +kernel
theorem dX2_hasNoRoom_4 : decode cX2_hasNoRoom 4 = .ok (.invokevirtual 49, 3) := by decide +kernel
theorem dX2_hasNoRoom_7 : decode cX2_hasNoRoom 7 = .ok (.ireturn, 1) := by decide +kernel
theorem dX2_add_0 : decode cX2_add 0 = .ok (.aload_n 0, 1) := by decide +kernel
theorem dX2_add_1 : decode cX2_add 1 = .ok (.getfield 41, 3) := by decide +kernel
theorem dX2_add_4 : decode cX2_add 4 = .ok (.bipush 24, 2) := by decide +kernel
theorem dX2_add_6 : decode cX2_add 6 = .ok (.if_icmp .ge 33, 3) := by decide +kernel
theorem dX2_add_9 : decode cX2_add 9 = .ok (.aload_n 0, 1) := by decide +kernel
theorem dX2_add_10 : decode cX2_add 10 = .ok (.getfield 9, 3) := by decide +kernel
theorem dX2_add_13 : decode cX2_add 13 = .ok (.aload_n 0, 1) := by decide +kernel
theorem dX2_add_14 : decode cX2_add 14 = .ok (.getfield 41, 3) := by decide +kernel
theorem dX2_add_17 : decode cX2_add 17 = .ok (.iload_n 1, 1) := by decide +kernel
theorem dX2_add_18 : decode cX2_add 18 = .ok (.iastore, 1) := by decide +kernel
theorem dX2_add_19 : decode cX2_add 19 = .ok (.aload_n 0, 1) := by decide +kernel
theorem dX2_add_20 : decode cX2_add 20 = .ok (.getfield 15, 3) := by decide +kernel
theorem dX2_add_23 : decode cX2_add 23 = .ok (.aload_n 0, 1) := by decide +kernel
theorem dX2_add_24 : decode cX2_add 24 = .ok (.getfield 41, 3) := by decide +kernel
theorem dX2_add_27 : decode cX2_add 27 = .ok (.iload_n 2, 1) := by decide +kernel
theorem dX2_add_28 : decode cX2_add 28 = .ok (.iastore, 1) := by decide +kernel
theorem dX2_add_29 : decode cX2_add 29 = .ok (.aload_n 0, 1) := by decide +kernel
theorem dX2_add_30 : decode cX2_add 30 = .ok (.dup, 1) := by decide +kernel
theorem dX2_add_31 : decode cX2_add 31 = .ok (.getfield 41, 3) := by decide +kernel
theorem dX2_add_34 : decode cX2_add 34 = .ok (.iconst 1, 1) := by decide +kernel
theorem dX2_add_35 : decode cX2_add 35 = .ok (.iadd, 1) := by decide +kernel
theorem dX2_add_36 : decode cX2_add 36 = .ok (.putfield 41, 3) := by decide +kernel
theorem dX2_add_39 : decode cX2_add 39 = .ok (.return_, 1) := by decide +kernel
set_option maxRecDepth 20000 in
theorem ggX2_slice_X0_set : GoodIn wsX2_slice wsX0_set := goodIn_r _ [12, 13, 14, 15, 16, 64, 65, 66, 67] (by decide +kernel) (by decide +kernel)
set_option maxRecDepth 20000 in
theorem gX2_slice_X0_set : GoodIn wsX2_slice (wsV RX2 45 RX0 yX0_set wsX0_set) := goodIn_app (goodIn_of _ (by decide +kernel)) ggX2_slice_X0_set
set_option maxRecDepth 20000 in
theorem ggX2_slice_X2_fillBand : GoodIn wsX2_slice wsX2_fillBand := goodIn_r _ [21, 22, 23, 1, 5, 6, 24, 25, 3, 4, 26, 27, 28, 29, 30, 31, 32, 33, 34, 35, 36, 37, 38, 39, 40, 41, 42, 43, 44, 45, 46, 47, 48, 49, 50, 51, 52, 53, 54, 55, 56, 57, 58, 59, 60, 61, 62, 63, 64, 65, 66, 67, 68, 69, 70, 71, 72, 73, 74, 75] (by decide +kernel) (by decide +kernel)
set_option maxRecDepth 20000 in
theorem gX2_slice_X2_fillBand : GoodIn wsX2_slice (wsV RX2 65 RX2 yX2_fillBand wsX2_fillBand) := goodIn_app (goodIn_of _ (by decide +kernel)) ggX2_slice_X2_fillBand
theorem dX2_slice_0 : decode cX2_slice 0 = .ok (.aload_n 0, 1) := by decide +kernel
theorem dX2_slice_1 : decode cX2_slice 1 = .ok (.getfield 25, 3) := by decide +kernel
theorem dX2_slice_4 : decode cX2_slice 4 = .ok (.aload_n 0, 1) := by decide +kernel
theorem dX2_slice_5 : decode cX2_slice 5 = .ok (.getfield 21, 3) := by decide +kernel
theorem dX2_slice_8 : decode cX2_slice 8 = .ok (.getfield 53, 3) := by decide +kernel
theorem dX2_slice_11 : decode cX2_slice 11 = .ok (.aload_n 0, 1) := by decide +kernel
theorem dX2_slice_12 : decode cX2_slice 12 = .ok (.getfield 21, 3) := by decide +kernel
theorem dX2_slice_15 : decode cX2_slice 15 = .ok (.getfield 56, 3) := by decide +kernel
theorem dX2_slice_18 : decode cX2_slice 18 = .ok (.aload_n 0, 1) := by decide +kernel
theorem dX2_slice_19 : decode cX2_slice 19 = .ok (.getfield 21, 3) := by decide +kernel
theorem dX2_slice_22 : decode cX2_slice 22 = .ok (.getfield 59, 3) := by decide +kernel
theorem dX2_slice_25 : decode cX2_slice 25 = .ok (.aload_n 0, 1) := by decide +kernel
theorem dX2_slice_26 : decode cX2_slice 26 = .ok (.getfield 21, 3) := by decide +kernel
theorem dX2_slice_29 : decode cX2_slice 29 = .ok (.getfield 62, 3) := by decide +kernel
theorem dX2_slice_32 : decode cX2_slice 32 = .ok (.invokevirtual 45, 3) := by decide +kernel
theorem dX2_slice_35 : decode cX2_slice 35 = .ok (.aload_n 0, 1) := by decide +kernel
theorem dX2_slice_36 : decode cX2_slice 36 = .ok (.iconst 0, 1) := by decide +kernel
theorem dX2_slice_37 : decode cX2_slice 37 = .ok (.aload_n 0, 1) := by decide +kernel
theorem dX2_slice_38 : decode cX2_slice 38 = .ok (.getfield 41, 3) := by decide +kernel
theorem dX2_slice_41 : decode cX2_slice 41 = .ok (.iload_n 1, 1) := by decide +kernel
theorem dX2_slice_42 : decode cX2_slice 42 = .ok (.aload_n 2, 1) := by decide +kernel
theorem dX2_slice_43 : decode cX2_slice 43 = .ok (.invokevirtual 65, 3) := by decide +kernel
theorem dX2_slice_46 : decode cX2_slice 46 = .ok (.return_, 1) := by decide +kernel
set_option maxRecDepth 20000 in
theorem ggX2_strip_X2_splitIntoStrips : GoodIn wsX2_strip wsX2_splitIntoStrips := goodIn_r _ [15, 1, 16, 5, 10, 17, 18, 19, 14, 20, 2, 8, 3, 21, 22, 23, 24, 25, 26, 27, 28, 29, 30, 31, 32, 33, 34, 35, 36, 37, 38, 39, 40, 41, 42, 43, 44, 45, 46, 81, 82, 83, 84, 85, 86, 87, 88, 93, 94, 95, 96, 89, 90, 91, 92] (by decide +kernel) (by decide +kernel)
set_option maxRecDepth 20000 in
theorem gX2_strip_X2_splitIntoStrips : GoodIn wsX2_strip (wsV RX2 69 RX2 yX2_splitIntoStrips wsX2_splitIntoStrips) := goodIn_app (goodIn_of _ (by decide +kernel)) ggX2_strip_X2_splitIntoStrips
set_option maxRecDepth 20000 in
theorem ggX2_strip_X4_apportion : GoodIn wsX2_strip wsX4_apportion := goodIn_r _ [50, 31, 46, 51, 52, 53, 54, 55, 29, 56, 93, 94, 95, 96] (by decide +kernel) (by decide +kernel)
set_option maxRecDepth 20000 in
theorem gX2_strip_X4_apportion : GoodIn wsX2_strip (wsV RX2 72 RX4 yX4_apportion wsX4_apportion) := goodIn_app (goodIn_of _ (by decide +kernel)) ggX2_strip_X4_apportion
set_option maxRecDepth 20000 in
theorem ggX2_strip_X0_set : GoodIn wsX2_strip wsX0_set := goodIn_r _ [61, 62, 63, 64, 65, 89, 90, 91, 92] (by decide +kernel) (by decide +kernel)
set_option maxRecDepth 20000 in
theorem gX2_strip_X0_set : GoodIn wsX2_strip (wsV RX2 45 RX0 yX0_set wsX0_set) := goodIn_app (goodIn_of _ (by decide +kernel)) ggX2_strip_X0_set
set_option maxRecDepth 20000 in
theorem ggX2_strip_X2_fillBand : GoodIn wsX2_strip wsX2_fillBand := goodIn_r _ [69, 70, 25, 6, 8, 3, 9, 71, 7, 4, 26, 27, 28, 29, 30, 31, 42, 43, 44, 45, 46, 47, 48, 49, 50, 51, 52, 53, 54, 55, 56, 72, 73, 74, 75, 76, 77, 78, 79, 80, 81, 82, 83, 84, 85, 86, 87, 88, 89, 90, 91, 92, 93, 94, 95, 96, 97, 98, 99, 100] (by decide +kernel) (by decide +kernel)
set_option maxRecDepth 20000 in
theorem gX2_strip_X2_fillBand : GoodIn wsX2_strip (wsV RX2 65 RX2 yX2_fillBand wsX2_fillBand) := goodIn_app (goodIn_of _ (by decide +kernel)) ggX2_strip_X2_fillBand
theorem dX2_strip_0 : decode cX2_strip 0 = .ok (.aload_n 0, 1) := by decide +kernel
theorem dX2_strip_1 : decode cX2_strip 1 = .ok (.invokevirtual 69, 3) := by decide +kernel
theorem dX2_strip_4 : decode cX2_strip 4 = .ok (.aload_n 0, 1) := by decide +kernel
theorem dX2_strip_5 : decode cX2_strip 5 = .ok (.getfield 35, 3) := by decide +kernel
theorem dX2_strip_8 : decode cX2_strip 8 = .ok (.aload_n 0, 1) := by decide +kernel
theorem dX2_strip_9 : decode cX2_strip 9 = .ok (.getfield 21, 3) := by decide +kernel
theorem dX2_strip_12 : decode cX2_strip 12 = .ok (.getfield 62, 3) := by decide +kernel
theorem dX2_strip_15 : decode cX2_strip 15 = .ok (.invokevirtual 72, 3) := by decide +kernel
theorem dX2_strip_18 : decode cX2_strip 18 = .ok (.iconst 0, 1) := by decide +kernel
theorem dX2_strip_19 : decode cX2_strip 19 = .ok (.istore_n 2, 1) := by decide +kernel
theorem dX2_strip_20 : decode cX2_strip 20 = .ok (.aload_n 0, 1) := by decide +kernel
theorem dX2_strip_21 : decode cX2_strip 21 = .ok (.getfield 21, 3) := by decide +kernel
theorem dX2_strip_24 : decode cX2_strip 24 = .ok (.getfield 56, 3) := by decide +kernel
theorem dX2_strip_27 : decode cX2_strip 27 = .ok (.istore_n 3, 1) := by decide +kernel
theorem dX2_strip_28 : decode cX2_strip 28 = .ok (.iconst 0, 1) := by decide +kernel
theorem dX2_strip_29 : decode cX2_strip 29 = .ok (.istore 4, 2) := by decide +kernel
theorem dX2_strip_31 : decode cX2_strip 31 = .ok (.iload 4, 2) := by decide +kernel
theorem dX2_strip_33 : decode cX2_strip 33 = .ok (.aload_n 0, 1) := by decide +kernel
theorem dX2_strip_34 : decode cX2_strip 34 = .ok (.getfield 35, 3) := by decide +kernel
theorem dX2_strip_37 : decode cX2_strip 37 = .ok (.getfield 76, 3) := by decide +kernel
theorem dX2_strip_40 : decode cX2_strip 40 = .ok (.if_icmp .ge 73, 3) := by decide +kernel
theorem dX2_strip_43 : decode cX2_strip 43 = .ok (.aload_n 0, 1) := by decide +kernel
theorem dX2_strip_44 : decode cX2_strip 44 = .ok (.getfield 25, 3) := by decide +kernel
theorem dX2_strip_47 : decode cX2_strip 47 = .ok (.aload_n 0, 1) := by decide +kernel
theorem dX2_strip_48 : decode cX2_strip 48 = .ok (.getfield 21, 3) := by decide +kernel
theorem dX2_strip_51 : decode cX2_strip 51 = .ok (.getfield 53, 3) := by decide +kernel
theorem dX2_strip_54 : decode cX2_strip 54 = .ok (.iload_n 3, 1) := by decide +kernel
theorem dX2_strip_55 : decode cX2_strip 55 = .ok (.aload_n 0, 1) := by decide +kernel
theorem dX2_strip_56 : decode cX2_strip 56 = .ok (.getfield 21, 3) := by decide +kernel
theorem dX2_strip_59 : decode cX2_strip 59 = .ok (.getfield 59, 3) := by decide +kernel
theorem dX2_strip_62 : decode cX2_strip 62 = .ok (.aload_n 0, 1) := by decide +kernel
theorem dX2_strip_63 : decode cX2_strip 63 = .ok (.getfield 35, 3) := by decide +kernel
theorem dX2_strip_66 : decode cX2_strip 66 = .ok (.getfield 79, 3) := by decide +kernel
theorem dX2_strip_69 : decode cX2_strip 69 = .ok (.iload 4, 2) := by decide +kernel
theorem dX2_strip_71 : decode cX2_strip 71 = .ok (.iaload, 1) := by decide +kernel
theorem dX2_strip_72 : decode cX2_strip 72 = .ok (.invokevirtual 45, 3) := by decide +kernel
theorem dX2_strip_75 : decode cX2_strip 75 = .ok (.aload_n 0, 1) := by decide +kernel
theorem dX2_strip_76 : decode cX2_strip 76 = .ok (.iload_n 2, 1) := by decide +kernel
theorem dX2_strip_77 : decode cX2_strip 77 = .ok (.aload_n 0, 1) := by decide +kernel
theorem dX2_strip_78 : decode cX2_strip 78 = .ok (.getfield 38, 3) := by decide +kernel
theorem dX2_strip_81 : decode cX2_strip 81 = .ok (.iload 4, 2) := by decide +kernel
theorem dX2_strip_83 : decode cX2_strip 83 = .ok (.iaload, 1) := by decide +kernel
theorem dX2_strip_84 : decode cX2_strip 84 = .ok (.iconst 1, 1) := by decide +kernel
theorem dX2_strip_85 : decode cX2_strip 85 = .ok (.aload_n 1, 1) := by decide +kernel
theorem dX2_strip_86 : decode cX2_strip 86 = .ok (.invokevirtual 65, 3) := by decide +kernel
theorem dX2_strip_89 : decode cX2_strip 89 = .ok (.iload_n 3, 1) := by decide +kernel
theorem dX2_strip_90 : decode cX2_strip 90 = .ok (.aload_n 0, 1) := by decide +kernel
theorem dX2_strip_91 : decode cX2_strip 91 = .ok (.getfield 25, 3) := by decide +kernel
theorem dX2_strip_94 : decode cX2_strip 94 = .ok (.getfield 62, 3) := by decide +kernel
theorem dX2_strip_97 : decode cX2_strip 97 = .ok (.iadd, 1) := by decide +kernel
theorem dX2_strip_98 : decode cX2_strip 98 = .ok (.istore_n 3, 1) := by decide +kernel
theorem dX2_strip_99 : decode cX2_strip 99 = .ok (.aload_n 0, 1) := by decide +kernel
theorem dX2_strip_100 : decode cX2_strip 100 = .ok (.getfield 38, 3) := by decide +kernel
theorem dX2_strip_103 : decode cX2_strip 103 = .ok (.iload 4, 2) := by decide +kernel
theorem dX2_strip_105 : decode cX2_strip 105 = .ok (.iaload, 1) := by decide +kernel
theorem dX2_strip_106 : decode cX2_strip 106 = .ok (.istore_n 2, 1) := by decide +kernel
theorem dX2_strip_107 : decode cX2_strip 107 = .ok (.iinc 4 1, 3) := by decide +kernel
theorem dX2_strip_110 : decode cX2_strip 110 = .ok (.goto (-79), 3) := by decide +kernel
theorem dX2_strip_113 : decode cX2_strip 113 = .ok (.return_, 1) := by decide +kernel
set_option maxRecDepth 20000 in
theorem ggX2_splitIntoStrips_X2_pixelsPerSize : GoodIn wsX2_splitIntoStrips wsX2_pixelsPerSize := goodIn_r _ [9, 2, 10, 11, 12, 13, 14, 15, 8, 16, 17, 39, 40, 41, 42, 43, 44, 45, 46, 51, 52, 53, 54] (by decide +kernel) (by decide +kernel)
set_option maxRecDepth 20000 in
theorem gX2_splitIntoStrips_X2_pixelsPerSize : GoodIn wsX2_splitIntoStrips (wsV RX2 82 RX2 yX2_pixelsPerSize wsX2_pixelsPerSize) := goodIn_app (goodIn_of _ (by decide +kernel)) ggX2_splitIntoStrips_X2_pixelsPerSize
set_option maxRecDepth 20000 in
theorem ggX2_splitIntoStrips_X4_clear : GoodIn wsX2_splitIntoStrips wsX4_clear := goodIn_r _ [22, 23, 47, 48, 49, 50] (by decide +kernel) (by decide +kernel)
set_option maxRecDepth 20000 in
theorem gX2_splitIntoStrips_X4_clear : GoodIn wsX2_splitIntoStrips (wsV RX2 86 RX4 yX4_clear wsX4_clear) := goodIn_app (goodIn_of _ (by decide +kernel)) ggX2_splitIntoStrips_X4_clear
set_option maxRecDepth 20000 in
theorem ggX2_splitIntoStrips_X2_averageRatio : GoodIn wsX2_splitIntoStrips wsX2_averageRatio := goodIn_r _ [27, 10, 11, 17, 13, 14, 15, 8, 16, 28, 29, 30, 31, 32, 33, 39, 40, 41, 42, 43, 44, 45, 46, 51, 52, 53, 54] (by decide +kernel) (by decide +kernel)
set_option maxRecDepth 20000 in
theorem gX2_splitIntoStrips_X2_averageRatio : GoodIn wsX2_splitIntoStrips (wsV RX2 89 RX2 yX2_averageRatio wsX2_averageRatio) := goodIn_app (goodIn_of _ (by decide +kernel)) ggX2_splitIntoStrips_X2_averageRatio
set_option maxRecDepth 20000 in
theorem ggX2_splitIntoStrips_X2_sumOfSizes : GoodIn wsX2_splitIntoStrips wsX2_sumOfSizes := goodIn_r _ [16, 17, 39, 40, 41, 42, 43, 44, 45, 46] (by decide +kernel) (by decide +kernel)
set_option maxRecDepth 20000 in
theorem gX2_splitIntoStrips_X2_sumOfSizes : GoodIn wsX2_splitIntoStrips (wsV RX2 93 RX2 yX2_sumOfSizes wsX2_sumOfSizes) := goodIn_app (goodIn_of _ (by decide +kernel)) ggX2_splitIntoStrips_X2_sumOfSizes
set_option maxRecDepth 20000 in
theorem ggX2_splitIntoStrips_X4_add : GoodIn wsX2_splitIntoStrips wsX4_add := goodIn_r _ [37, 23, 38, 47, 48, 49, 50] (by decide +kernel) (by decide +kernel)
set_option maxRecDepth 20000 in
theorem gX2_splitIntoStrips_X4_add : GoodIn wsX2_splitIntoStrips (wsV RX2 97 RX4 yX4_add wsX4_add) := goodIn_app (goodIn_of _ (by decide +kernel)) ggX2_splitIntoStrips_X4_add
theorem dX2_splitIntoStrips_0 : decode cX2_splitIntoStrips 0 = .ok (.aload_n 0, 1) := by decide +kernel
theorem dX2_splitIntoStrips_1 : decode cX2_splitIntoStrips 1 = .ok (.iconst 0, 1) := by decide +kernel
theorem dX2_splitIntoStrips_2 : decode cX2_splitIntoStrips 2 = .ok (.invokevirtual 82, 3) := by decide +kernel
theorem dX2_splitIntoStrips_5 : decode cX2_splitIntoStrips 5 = .ok (.fstore_n 1, 1) := by decide +kernel
theorem dX2_splitIntoStrips_6 : decode cX2_splitIntoStrips 6 = .ok (.aload_n 0, 1) := by decide +kernel
theorem dX2_splitIntoStrips_7 : decode cX2_splitIntoStrips 7 = .ok (.getfield 35, 3) := by decide +kernel
theorem dX2_splitIntoStrips_10 : decode cX2_splitIntoStrips 10 = .ok (.invokevirtual 86, 3) := by decide +kernel
theorem dX2_splitIntoStrips_13 : decode cX2_splitIntoStrips 13 = .ok (.iconst 0, 1) := by decide +kernel
theorem dX2_splitIntoStrips_14 : decode cX2_splitIntoStrips 14 = .ok (.istore_n 2, 1) := by decide +kernel
theorem dX2_splitIntoStrips_15 : decode cX2_splitIntoStrips 15 = .ok (.iconst 1, 1) := by decide +kernel
theorem dX2_splitIntoStrips_16 : decode cX2_splitIntoStrips 16 = .ok (.istore_n 3, 1) := by decide +kernel
theorem dX2_splitIntoStrips_17 : decode cX2_splitIntoStrips 17 = .ok (.iload_n 3, 1) := by decide +kernel
theorem dX2_splitIntoStrips_18 : decode cX2_splitIntoStrips 18 = .ok (.aload_n 0, 1) := by decide +kernel
theorem dX2_splitIntoStrips_19 : decode cX2_splitIntoStrips 19 = .ok (.getfield 41, 3) := by decide +kernel
theorem dX2_splitIntoStrips_22 : decode cX2_splitIntoStrips 22 = .ok (.if_icmp .gt 89, 3) := by decide +kernel
theorem dX2_splitIntoStrips_25 : decode cX2_splitIntoStrips 25 = .ok (.iload_n 3, 1) := by decide +kernel
theorem dX2_splitIntoStrips_26 : decode cX2_splitIntoStrips 26 = .ok (.aload_n 0, 1) := by decide +kernel
theorem dX2_splitIntoStrips_27 : decode cX2_splitIntoStrips 27 = .ok (.getfield 41, 3) := by decide +kernel
theorem dX2_splitIntoStrips_30 : decode cX2_splitIntoStrips 30 = .ok (.if_icmp .eq 23, 3) := by decide +kernel
theorem dX2_splitIntoStrips_33 : decode cX2_splitIntoStrips 33 = .ok (.aload_n 0, 1) := by decide +kernel
theorem dX2_splitIntoStrips_34 : decode cX2_splitIntoStrips 34 = .ok (.iload_n 2, 1) := by decide +kernel
theorem dX2_splitIntoStrips_35 : decode cX2_splitIntoStrips 35 = .ok (.iload_n 3, 1) := by decide +kernel
theorem dX2_splitIntoStrips_36 : decode cX2_splitIntoStrips 36 = .ok (.iconst 1, 1) := by decide +kernel
theorem dX2_splitIntoStrips_37 : decode cX2_splitIntoStrips 37 = .ok (.iadd, 1) := by decide +kernel
theorem dX2_splitIntoStrips_38 : decode cX2_splitIntoStrips 38 = .ok (.fload_n 1, 1) := by decide +kernel
theorem dX2_splitIntoStrips_39 : decode cX2_splitIntoStrips 39 = .ok (.invokevirtual 89, 3) := by decide +kernel
theorem dX2_splitIntoStrips_42 : decode cX2_splitIntoStrips 42 = .ok (.aload_n 0, 1) := by decide +kernel
theorem dX2_splitIntoStrips_43 : decode cX2_splitIntoStrips 43 = .ok (.iload_n 2, 1) := by decide +kernel
theorem dX2_splitIntoStrips_44 : decode cX2_splitIntoStrips 44 = .ok (.iload_n 3, 1) := by decide +kernel
theorem dX2_splitIntoStrips_45 : decode cX2_splitIntoStrips 45 = .ok (.fload_n 1, 1) := by decide +kernel
theorem dX2_splitIntoStrips_46 : decode cX2_splitIntoStrips 46 = .ok (.invokevirtual 89, 3) := by decide +kernel
theorem dX2_splitIntoStrips_49 : decode cX2_splitIntoStrips 49 = .ok (.fcmp .l, 1) := by decide +kernel
theorem dX2_splitIntoStrips_50 : decode cX2_splitIntoStrips 50 = .ok (.ifCond .le 7, 3) := by decide +kernel
theorem dX2_splitIntoStrips_53 : decode cX2_splitIntoStrips 53 = .ok (.iconst 1, 1) := by decide +kernel
theorem dX2_splitIntoStrips_54 : decode cX2_splitIntoStrips 54 = .ok (.goto 4, 3) := by decide +kernel
theorem dX2_splitIntoStrips_57 : decode cX2_splitIntoStrips 57 = .ok (.iconst 0, 1) := by decide +kernel
theorem dX2_splitIntoStrips_58 : decode cX2_splitIntoStrips 58 = .ok (.istore 4, 2) := by decide +kernel
theorem dX2_splitIntoStrips_60 : decode cX2_splitIntoStrips 60 = .ok (.iload 4, 2) := by decide +kernel
theorem dX2_splitIntoStrips_62 : decode cX2_splitIntoStrips 62 = .ok (.ifCond .eq 43, 3) := by decide +kernel
theorem dX2_splitIntoStrips_65 : decode cX2_splitIntoStrips 65 = .ok (.aload_n 0, 1) := by decide +kernel
theorem dX2_splitIntoStrips_66 : decode cX2_splitIntoStrips 66 = .ok (.getfield 35, 3) := by decide +kernel
theorem dX2_splitIntoStrips_69 : decode cX2_splitIntoStrips 69 = .ok (.getfield 76, 3) := by decide +kernel
theorem dX2_splitIntoStrips_72 : decode cX2_splitIntoStrips 72 = .ok (.bipush 24, 2) := by decide +kernel
theorem dX2_splitIntoStrips_74 : decode cX2_splitIntoStrips 74 = .ok (.if_icmp .ge 31, 3) := by decide +kernel
theorem dX2_splitIntoStrips_77 : decode cX2_splitIntoStrips 77 = .ok (.aload_n 0, 1) := by decide +kernel
theorem dX2_splitIntoStrips_78 : decode cX2_splitIntoStrips 78 = .ok (.getfield 38, 3) := by decide +kernel
theorem dX2_splitIntoStrips_81 : decode cX2_splitIntoStrips 81 = .ok (.aload_n 0, 1) := by decide +kernel
theorem dX2_splitIntoStrips_82 : decode cX2_splitIntoStrips 82 = .ok (.getfield 35, 3) := by decide +kernel
theorem dX2_splitIntoStrips_85 : decode cX2_splitIntoStrips 85 = .ok (.getfield 76, 3) := by decide +kernel
theorem dX2_splitIntoStrips_88 : decode cX2_splitIntoStrips 88 = .ok (.iload_n 3, 1) := by decide +kernel
theorem dX2_splitIntoStrips_89 : decode cX2_splitIntoStrips 89 = .ok (.iastore, 1) := by decide +kernel
theorem dX2_splitIntoStrips_90 : decode cX2_splitIntoStrips 90 = .ok (.aload_n 0, 1) := by decide +kernel
theorem dX2_splitIntoStrips_91 : decode cX2_splitIntoStrips 91 = .ok (.getfield 35, 3) := by decide +kernel
theorem dX2_splitIntoStrips_94 : decode cX2_splitIntoStrips 94 = .ok (.aload_n 0, 1) := by decide +kernel
theorem dX2_splitIntoStrips_95 : decode cX2_splitIntoStrips 95 = .ok (.iload_n 2, 1) := by decide +kernel
theorem dX2_splitIntoStrips_96 : decode cX2_splitIntoStrips 96 = .ok (.iload_n 3, 1) := by decide +kernel
theorem dX2_splitIntoStrips_97 : decode cX2_splitIntoStrips 97 = .ok (.invokevirtual 93, 3) := by decide +kernel
theorem dX2_splitIntoStrips_100 : decode cX2_splitIntoStrips 100 = .ok (.invokevirtual 97, 3) := by decide +kernel
theorem dX2_splitIntoStrips_103 : decode cX2_splitIntoStrips 103 = .ok (.iload_n 3, 1) := by decide +kernel
theorem dX2_splitIntoStrips_104 : decode cX2_splitIntoStrips 104 = .ok (.istore_n 2, 1) := by decide +kernel
theorem dX2_splitIntoStrips_105 : decode cX2_splitIntoStrips 105 = .ok (.iinc 3 1, 3) := by decide +kernel
theorem dX2_splitIntoStrips_108 : decode cX2_splitIntoStrips 108 = .ok (.goto (-91), 3) := by decide +kernel
theorem dX2_splitIntoStrips_111 : decode cX2_splitIntoStrips 111 = .ok (.return_, 1) := by decide +kernel
set_option maxRecDepth 20000 in
theorem ggX2_averageRatio_X2_sumOfSizes : GoodIn wsX2_averageRatio wsX2_sumOfSizes := goodIn_r _ [8, 3, 15, 16, 17, 18, 19, 20, 21, 22] (by decide +kernel) (by decide +kernel)
set_option maxRecDepth 20000 in
theorem gX2_averageRatio_X2_sumOfSizes : GoodIn wsX2_averageRatio (wsV RX2 93 RX2 yX2_sumOfSizes wsX2_sumOfSizes) := goodIn_app (goodIn_of _ (by decide +kernel)) ggX2_averageRatio_X2_sumOfSizes
set_option maxRecDepth 20000 in
theorem ggX2_averageRatio_X2_thicknessOf : GoodIn wsX2_averageRatio wsX2_thicknessOf := goodIn_r _ [11] (by decide +kernel) (by decide +kernel)
set_option maxRecDepth 20000 in
theorem gX2_averageRatio_X2_thicknessOf : GoodIn wsX2_averageRatio (va_wsS RX2 100 yX2_thicknessOf wsX2_thicknessOf) := goodIn_app (goodIn_of _ (by decide +kernel)) ggX2_averageRatio_X2_thicknessOf
set_option maxRecDepth 20000 in
theorem ggX2_averageRatio_X2_ratio : GoodIn wsX2_averageRatio wsX2_ratio := goodIn_r _ [14] (by decide +kernel) (by decide +kernel)
set_option maxRecDepth 20000 in
theorem gX2_averageRatio_X2_ratio : GoodIn wsX2_averageRatio (va_wsS RX2 104 yX2_ratio wsX2_ratio) := goodIn_app (goodIn_of _ (by decide +kernel)) ggX2_averageRatio_X2_ratio
theorem dX2_averageRatio_0 : decode cX2_averageRatio 0 = .ok (.aload_n 0, 1) := by decide +kernel
theorem dX2_averageRatio_1 : decode cX2_averageRatio 1 = .ok (.iload_n 1, 1) := by decide +kernel
theorem dX2_averageRatio_2 : decode cX2_averageRatio 2 = .ok (.iload_n 2, 1) := by decide +kernel
theorem dX2_averageRatio_3 : decode cX2_averageRatio 3 = .ok (.invokevirtual 93, 3) := by decide +kernel
theorem dX2_averageRatio_6 : decode cX2_averageRatio 6 = .ok (.fload_n 3, 1) := by decide +kernel
theorem dX2_averageRatio_7 : decode cX2_averageRatio 7 = .ok (.aload_n 0, 1) := by decide +kernel
theorem dX2_averageRatio_8 : decode cX2_averageRatio 8 = .ok (.getfield 21, 3) := by decide +kernel
theorem dX2_averageRatio_11 : decode cX2_averageRatio 11 = .ok (.getfield 59, 3) := by decide +kernel
theorem dX2_averageRatio_14 : decode cX2_averageRatio 14 = .ok (.invokestatic 100, 3) := by decide +kernel
theorem dX2_averageRatio_17 : decode cX2_averageRatio 17 = .ok (.fstore 4, 2) := by decide +kernel
theorem dX2_averageRatio_19 : decode cX2_averageRatio 19 = .ok (.fconst 0, 1) := by decide +kernel
theorem dX2_averageRatio_20 : decode cX2_averageRatio 20 = .ok (.fstore 5, 2) := by decide +kernel
theorem dX2_averageRatio_22 : decode cX2_averageRatio 22 = .ok (.iload_n 1, 1) := by decide +kernel
theorem dX2_averageRatio_23 : decode cX2_averageRatio 23 = .ok (.istore 6, 2) := by decide +kernel
theorem dX2_averageRatio_25 : decode cX2_averageRatio 25 = .ok (.iload 6, 2) := by decide +kernel
theorem dX2_averageRatio_27 : decode cX2_averageRatio 27 = .ok (.iload_n 2, 1) := by decide +kernel
theorem dX2_averageRatio_28 : decode cX2_averageRatio 28 = .ok (.if_icmp .ge 27, 3) := by decide +kernel
theorem dX2_averageRatio_31 : decode cX2_averageRatio 31 = .ok (.fload 5, 2) := by decide +kernel
theorem dX2_averageRatio_33 : decode cX2_averageRatio 33 = .ok (.aload_n 0, 1) := by decide +kernel
theorem dX2_averageRatio_34 : decode cX2_averageRatio 34 = .ok (.getfield 15, 3) := by decide +kernel
theorem dX2_averageRatio_37 : decode cX2_averageRatio 37 = .ok (.iload 6, 2) := by decide +kernel
theorem dX2_averageRatio_39 : decode cX2_averageRatio 39 = .ok (.iaload, 1) := by decide +kernel
theorem dX2_averageRatio_40 : decode cX2_averageRatio 40 = .ok (.fload_n 3, 1) := by decide +kernel
theorem dX2_averageRatio_41 : decode cX2_averageRatio 41 = .ok (.fload 4, 2) := by decide +kernel
theorem dX2_averageRatio_43 : decode cX2_averageRatio 43 = .ok (.invokestatic 104, 3) := by decide +kernel
theorem dX2_averageRatio_46 : decode cX2_averageRatio 46 = .ok (.fadd, 1) := by decide +kernel
theorem dX2_averageRatio_47 : decode cX2_averageRatio 47 = .ok (.fstore 5, 2) := by decide +kernel
theorem dX2_averageRatio_49 : decode cX2_averageRatio 49 = .ok (.iinc 6 1, 3) := by decide +kernel
theorem dX2_averageRatio_52 : decode cX2_averageRatio 52 = .ok (.goto (-27), 3) := by decide +kernel
theorem dX2_averageRatio_55 : decode cX2_averageRatio 55 = .ok (.iload_n 2, 1) := by decide +kernel
theorem dX2_averageRatio_56 : decode cX2_averageRatio 56 = .ok (.iload_n 1, 1) := by decide +kernel
theorem dX2_averageRatio_57 : decode cX2_averageRatio 57 = .ok (.if_icmp .le 13, 3) := by decide +kernel
theorem dX2_averageRatio_60 : decode cX2_averageRatio 60 = .ok (.fload 5, 2) := by decide +kernel
theorem dX2_averageRatio_62 : decode cX2_averageRatio 62 = .ok (.iload_n 2, 1) := by decide +kernel
theorem dX2_averageRatio_63 : decode cX2_averageRatio 63 = .ok (.iload_n 1, 1) := by decide +kernel
theorem dX2_averageRatio_64 : decode cX2_averageRatio 64 = .ok (.isub, 1) := by decide +kernel
theorem dX2_averageRatio_65 : decode cX2_averageRatio 65 = .ok (.i2f, 1) := by decide +kernel
theorem dX2_averageRatio_66 : decode cX2_averageRatio 66 = .ok (.fdiv, 1) := by decide +kernel
theorem dX2_averageRatio_67 : decode cX2_averageRatio 67 = .ok (.goto 4, 3) := by decide +kernel
theorem dX2_averageRatio_70 : decode cX2_averageRatio 70 = .ok (.fconst 0, 1) := by decide +kernel
theorem dX2_averageRatio_71 : decode cX2_averageRatio 71 = .ok (.freturn, 1) := by decide +kernel
set_option maxRecDepth 20000 in
theorem ggX2_squarify_X2_sortByFallingSize : GoodIn wsX2_squarify wsX2_sortByFallingSize := goodIn_r _ [9, 1, 10, 11, 102, 103, 104, 105, 106, 107, 108, 109] (by decide +kernel) (by decide +kernel)
set_option maxRecDepth 20000 in
theorem gX2_squarify_X2_sortByFallingSize : GoodIn wsX2_squarify (wsV RX2 108 RX2 yX2_sortByFallingSize wsX2_sortByFallingSize) := goodIn_app (goodIn_of _ (by decide +kernel)) ggX2_squarify_X2_sortByFallingSize
set_option maxRecDepth 20000 in
theorem ggX2_squarify_X0_isEmpty : GoodIn wsX2_squarify wsX0_isEmpty := goodIn_r _ [16, 17, 18, 110, 111, 112, 113] (by decide +kernel) (by decide +kernel)
set_option maxRecDepth 20000 in
theorem gX2_squarify_X0_isEmpty : GoodIn wsX2_squarify (wsV RX2 49 RX0 yX0_isEmpty wsX0_isEmpty) := goodIn_app (goodIn_of _ (by decide +kernel)) ggX2_squarify_X0_isEmpty
set_option maxRecDepth 20000 in
theorem ggX2_squarify_X2_collapse : GoodIn wsX2_squarify wsX2_collapse := goodIn_r _ [22, 1, 10, 2, 23, 24, 25, 26, 27, 28, 29, 30, 31, 32, 33, 102, 103, 104, 105, 106, 107, 108, 109, 110, 111, 112, 113, 114, 115, 116, 117] (by decide +kernel) (by decide +kernel)
set_option maxRecDepth 20000 in
theorem gX2_squarify_X2_collapse : GoodIn wsX2_squarify (wsV RX2 111 RX2 yX2_collapse wsX2_collapse) := goodIn_app (goodIn_of _ (by decide +kernel)) ggX2_squarify_X2_collapse
set_option maxRecDepth 20000 in
theorem ggX2_squarify_X2_endOfRow : GoodIn wsX2_squarify wsX2_endOfRow := goodIn_r _ [37, 2, 4, 3, 38, 39, 40, 41, 1, 42, 43, 44, 8, 45, 46, 47, 48, 49, 11, 50, 51, 52, 53, 54, 55, 56, 57, 58, 59, 102, 103, 104, 105, 106, 107, 108, 109, 110, 111, 112, 113] (by decide +kernel) (by decide +kernel)
set_option maxRecDepth 20000 in
theorem gX2_squarify_X2_endOfRow : GoodIn wsX2_squarify (wsV RX2 115 RX2 yX2_endOfRow wsX2_endOfRow) := goodIn_app (goodIn_of _ (by decide +kernel)) ggX2_squarify_X2_endOfRow
set_option maxRecDepth 20000 in
theorem ggX2_squarify_X2_cutBand : GoodIn wsX2_squarify wsX2_cutBand := goodIn_r _ [63, 2, 4, 64, 23, 24, 3, 65, 66, 67, 8, 68, 1, 46, 47, 48, 49, 11, 69, 70, 71, 15, 72, 73, 74, 17, 18, 102, 103, 104, 105, 106, 107, 108, 109, 110, 111, 112, 113] (by decide +kernel) (by decide +kernel)
set_option maxRecDepth 20000 in
theorem gX2_squarify_X2_cutBand : GoodIn wsX2_squarify (wsV RX2 119 RX2 yX2_cutBand wsX2_cutBand) := goodIn_app (goodIn_of _ (by decide +kernel)) ggX2_squarify_X2_cutBand
set_option maxRecDepth 20000 in
theorem ggX2_squarify_X2_fillBand : GoodIn wsX2_squarify wsX2_fillBand := goodIn_r _ [78, 79, 11, 64, 4, 3, 80, 10, 23, 24, 81, 82, 83, 84, 85, 86, 87, 88, 89, 90, 91, 92, 93, 94, 95, 96, 97, 98, 99, 100, 101, 25, 26, 27, 28, 29, 30, 31, 32, 33, 102, 103, 104, 105, 106, 107, 108, 109, 110, 111, 112, 113, 118, 119, 120, 121, 114, 115, 116, 117] (by decide +kernel) (by decide +kernel)
set_option maxRecDepth 20000 in
theorem gX2_squarify_X2_fillBand : GoodIn wsX2_squarify (wsV RX2 65 RX2 yX2_fillBand wsX2_fillBand) := goodIn_app (goodIn_of _ (by decide +kernel)) ggX2_squarify_X2_fillBand
theorem dX2_squarify_0 : decode cX2_squarify 0 = .ok (.aload_n 0, 1) := by decide +kernel
theorem dX2_squarify_1 : decode cX2_squarify 1 = .ok (.invokevirtual 108, 3) := by decide +kernel
theorem dX2_squarify_4 : decode cX2_squarify 4 = .ok (.iconst 0, 1) := by decide +kernel
theorem dX2_squarify_5 : decode cX2_squarify 5 = .ok (.istore_n 2, 1) := by decide +kernel
theorem dX2_squarify_6 : decode cX2_squarify 6 = .ok (.iconst 0, 1) := by decide +kernel
theorem dX2_squarify_7 : decode cX2_squarify 7 = .ok (.istore_n 3, 1) := by decide +kernel
theorem dX2_squarify_8 : decode cX2_squarify 8 = .ok (.iload_n 3, 1) := by decide +kernel
theorem dX2_squarify_9 : decode cX2_squarify 9 = .ok (.aload_n 0, 1) := by decide +kernel
theorem dX2_squarify_10 : decode cX2_squarify 10 = .ok (.getfield 41, 3) := by decide +kernel
theorem dX2_squarify_13 : decode cX2_squarify 13 = .ok (.if_icmp .ge 95, 3) := by decide +kernel
theorem dX2_squarify_16 : decode cX2_squarify 16 = .ok (.iload_n 2, 1) := by decide +kernel
theorem dX2_squarify_17 : decode cX2_squarify 17 = .ok (.aload_n 0, 1) := by decide +kernel
theorem dX2_squarify_18 : decode cX2_squarify 18 = .ok (.getfield 41, 3) := by decide +kernel
theorem dX2_squarify_21 : decode cX2_squarify 21 = .ok (.if_icmp .ge 87, 3) := by decide +kernel
theorem dX2_squarify_24 : decode cX2_squarify 24 = .ok (.aload_n 0, 1) := by decide +kernel
theorem dX2_squarify_25 : decode cX2_squarify 25 = .ok (.getfield 21, 3) := by decide +kernel
theorem dX2_squarify_28 : decode cX2_squarify 28 = .ok (.invokevirtual 49, 3) := by decide +kernel
theorem dX2_squarify_31 : decode cX2_squarify 31 = .ok (.ifCond .eq 10, 3) := by decide +kernel
theorem dX2_squarify_34 : decode cX2_squarify 34 = .ok (.aload_n 0, 1) := by decide +kernel
theorem dX2_squarify_35 : decode cX2_squarify 35 = .ok (.iload_n 2, 1) := by decide +kernel
theorem dX2_squarify_36 : decode cX2_squarify 36 = .ok (.aload_n 1, 1) := by decide +kernel
theorem dX2_squarify_37 : decode cX2_squarify 37 = .ok (.invokevirtual 111, 3) := by decide +kernel
theorem dX2_squarify_40 : decode cX2_squarify 40 = .ok (.return_, 1) := by decide +kernel
theorem dX2_squarify_41 : decode cX2_squarify 41 = .ok (.aload_n 0, 1) := by decide +kernel
theorem dX2_squarify_42 : decode cX2_squarify 42 = .ok (.iload_n 2, 1) := by decide +kernel
theorem dX2_squarify_43 : decode cX2_squarify 43 = .ok (.invokevirtual 115, 3) := by decide +kernel
theorem dX2_squarify_46 : decode cX2_squarify 46 = .ok (.istore 4, 2) := by decide +kernel
theorem dX2_squarify_48 : decode cX2_squarify 48 = .ok (.aload_n 0, 1) := by decide +kernel
theorem dX2_squarify_49 : decode cX2_squarify 49 = .ok (.getfield 21, 3) := by decide +kernel
theorem dX2_squarify_52 : decode cX2_squarify 52 = .ok (.getfield 62, 3) := by decide +kernel
theorem dX2_squarify_55 : decode cX2_squarify 55 = .ok (.aload_n 0, 1) := by decide +kernel
theorem dX2_squarify_56 : decode cX2_squarify 56 = .ok (.getfield 21, 3) := by decide +kernel
theorem dX2_squarify_59 : decode cX2_squarify 59 = .ok (.getfield 59, 3) := by decide +kernel
theorem dX2_squarify_62 : decode cX2_squarify 62 = .ok (.if_icmp .gt 7, 3) := by decide +kernel
theorem dX2_squarify_65 : decode cX2_squarify 65 = .ok (.iconst 1, 1) := by decide +kernel
theorem dX2_squarify_66 : decode cX2_squarify 66 = .ok (.goto 4, 3) := by decide +kernel
theorem dX2_squarify_69 : decode cX2_squarify 69 = .ok (.iconst 0, 1) := by decide +kernel
theorem dX2_squarify_70 : decode cX2_squarify 70 = .ok (.istore 5, 2) := by decide +kernel
theorem dX2_squarify_72 : decode cX2_squarify 72 = .ok (.aload_n 0, 1) := by decide +kernel
theorem dX2_squarify_73 : decode cX2_squarify 73 = .ok (.iload_n 2, 1) := by decide +kernel
theorem dX2_squarify_74 : decode cX2_squarify 74 = .ok (.iload 4, 2) := by decide +kernel
theorem dX2_squarify_76 : decode cX2_squarify 76 = .ok (.iload 5, 2) := by decide +kernel
theorem dX2_squarify_78 : decode cX2_squarify 78 = .ok (.invokevirtual 119, 3) := by decide +kernel
theorem dX2_squarify_81 : decode cX2_squarify 81 = .ok (.aload_n 0, 1) := by decide +kernel
theorem dX2_squarify_82 : decode cX2_squarify 82 = .ok (.iload_n 2, 1) := by decide +kernel
theorem dX2_squarify_83 : decode cX2_squarify 83 = .ok (.iload 4, 2) := by decide +kernel
theorem dX2_squarify_85 : decode cX2_squarify 85 = .ok (.iload 5, 2) := by decide +kernel
theorem dX2_squarify_87 : decode cX2_squarify 87 = .ok (.ifCond .ne 7, 3) := by decide +kernel
theorem dX2_squarify_90 : decode cX2_squarify 90 = .ok (.iconst 1, 1) := by decide +kernel
theorem dX2_squarify_91 : decode cX2_squarify 91 = .ok (.goto 4, 3) := by decide +kernel
theorem dX2_squarify_94 : decode cX2_squarify 94 = .ok (.iconst 0, 1) := by decide +kernel
theorem dX2_squarify_95 : decode cX2_squarify 95 = .ok (.aload_n 1, 1) := by decide +kernel
theorem dX2_squarify_96 : decode cX2_squarify 96 = .ok (.invokevirtual 65, 3) := by decide +kernel
theorem dX2_squarify_99 : decode cX2_squarify 99 = .ok (.iload 4, 2) := by decide +kernel
theorem dX2_squarify_101 : decode cX2_squarify 101 = .ok (.istore_n 2, 1) := by decide +kernel
theorem dX2_squarify_102 : decode cX2_squarify 102 = .ok (.iinc 3 1, 3) := by decide +kernel
theorem dX2_squarify_105 : decode cX2_squarify 105 = .ok (.goto (-97), 3) := by decide +kernel
theorem dX2_squarify_108 : decode cX2_squarify 108 = .ok (.return_, 1) := by decide +kernel
theorem dX2_sortByFallingSize_0 : decode cX2_sortByFallingSize 0 = .ok (.iconst 1, 1) := by decide +kernel
theorem dX2_sortByFallingSize_1 : decode cX2_sortByFallingSize 1 = .ok (.istore_n 1, 1) := by decide +kernel
theorem dX2_sortByFallingSize_2 : decode cX2_sortByFallingSize 2 = .ok (.iload_n 1, 1) := by decide +kernel
theorem dX2_sortByFallingSize_3 : decode cX2_sortByFallingSize 3 = .ok (.aload_n 0, 1) := by decide +kernel
theorem dX2_sortByFallingSize_4 : decode cX2_sortByFallingSize 4 = .ok (.getfield 41, 3) := by decide +kernel
theorem dX2_sortByFallingSize_7 : decode cX2_sortByFallingSize 7 = .ok (.if_icmp .ge 98, 3) := by decide +kernel
theorem dX2_sortByFallingSize_10 : decode cX2_sortByFallingSize 10 = .ok (.aload_n 0, 1) := by decide +kernel
theorem dX2_sortByFallingSize_11 : decode cX2_sortByFallingSize 11 = .ok (.getfield 9, 3) := by decide +kernel
theorem dX2_sortByFallingSize_14 : decode cX2_sortByFallingSize 14 = .ok (.iload_n 1, 1) := by decide +kernel
theorem dX2_sortByFallingSize_15 : decode cX2_sortByFallingSize 15 = .ok (.iaload, 1) := by decide +kernel
theorem dX2_sortByFallingSize_16 : decode cX2_sortByFallingSize 16 = .ok (.istore_n 2, 1) := by decide +kernel
theorem dX2_sortByFallingSize_17 : decode cX2_sortByFallingSize 17 = .ok (.aload_n 0, 1) := by decide +kernel
theorem dX2_sortByFallingSize_18 : decode cX2_sortByFallingSize 18 = .ok (.getfield 15, 3) := by decide +kernel
theorem dX2_sortByFallingSize_21 : decode cX2_sortByFallingSize 21 = .ok (.iload_n 1, 1) := by decide +kernel
theorem dX2_sortByFallingSize_22 : decode cX2_sortByFallingSize 22 = .ok (.iaload, 1) := by decide +kernel
theorem dX2_sortByFallingSize_23 : decode cX2_sortByFallingSize 23 = .ok (.istore_n 3, 1) := by decide +kernel
theorem dX2_sortByFallingSize_24 : decode cX2_sortByFallingSize 24 = .ok (.iload_n 1, 1) := by decide +kernel
theorem dX2_sortByFallingSize_25 : decode cX2_sortByFallingSize 25 = .ok (.istore 4, 2) := by decide +kernel
theorem dX2_sortByFallingSize_27 : decode cX2_sortByFallingSize 27 = .ok (.iload 4, 2) := by decide +kernel
theorem dX2_sortByFallingSize_29 : decode cX2_sortByFallingSize 29 = .ok (.ifCond .le 54, 3) := by decide +kernel
theorem dX2_sortByFallingSize_32 : decode cX2_sortByFallingSize 32 = .ok (.aload_n 0, 1) := by decide +kernel
theorem dX2_sortByFallingSize_33 : decode cX2_sortByFallingSize 33 = .ok (.getfield 15, 3) := by decide +kernel
theorem dX2_sortByFallingSize_36 : decode cX2_sortByFallingSize 36 = .ok (.iload 4, 2) := by decide +kernel
theorem dX2_sortByFallingSize_38 : decode cX2_sortByFallingSize 38 = .ok (.iconst 1, 1) := by decide +kernel
theorem dX2_sortByFallingSize_39 : decode cX2_sortByFallingSize 39 = .ok (.isub, 1) := by decide +kernel
theorem dX2_sortByFallingSize_40 : decode cX2_sortByFallingSize 40 = .ok (.iaload, 1) := by decide +kernel
theorem dX2_sortByFallingSize_41 : decode cX2_sortByFallingSize 41 = .ok (.iload_n 3, 1) := by decide +kernel
theorem dX2_sortByFallingSize_42 : decode cX2_sortByFallingSize 42 = .ok (.if_icmp .ge 41, 3) := by decide +kernel
theorem dX2_sortByFallingSize_45 : decode cX2_sortByFallingSize 45 = .ok (.aload_n 0, 1) := by decide +kernel
theorem dX2_sortByFallingSize_46 : decode cX2_sortByFallingSize 46 = .ok (.getfield 9, 3) := by decide +kernel
theorem dX2_sortByFallingSize_49 : decode cX2_sortByFallingSize 49 = .ok (.iload 4, 2) := by decide +kernel
theorem dX2_sortByFallingSize_51 : decode cX2_sortByFallingSize 51 = .ok (.aload_n 0, 1) := by decide +kernel
theorem dX2_sortByFallingSize_52 : decode cX2_sortByFallingSize 52 = .ok (.getfield 9, 3) := by decide +kernel
theorem dX2_sortByFallingSize_55 : decode cX2_sortByFallingSize 55 = .ok (.iload 4, 2) := by decide +kernel
theorem dX2_sortByFallingSize_57 : decode cX2_sortByFallingSize 57 = .ok (.iconst 1, 1) := by decide +kernel
theorem dX2_sortByFallingSize_58 : decode cX2_sortByFallingSize 58 = .ok (.isub, 1) := by decide +kernel
theorem dX2_sortByFallingSize_59 : decode cX2_sortByFallingSize 59 = .ok (.iaload, 1) := by decide +kernel
theorem dX2_sortByFallingSize_60 : decode cX2_sortByFallingSize 60 = .ok (.iastore, 1) := by decide +kernel
theorem dX2_sortByFallingSize_61 : decode cX2_sortByFallingSize 61 = .ok (.aload_n 0, 1) := by decide +kernel
theorem dX2_sortByFallingSize_62 : decode cX2_sortByFallingSize 62 = .ok (.getfield 15, 3) := by decide +kernel
theorem dX2_sortByFallingSize_65 : decode cX2_sortByFallingSize 65 = .ok (.iload 4, 2) := by decide +kernel
theorem dX2_sortByFallingSize_67 : decode cX2_sortByFallingSize 67 = .ok (.aload_n 0, 1) := by decide +kernel
theorem dX2_sortByFallingSize_68 : decode cX2_sortByFallingSize 68 = .ok (.getfield 15, 3) := by decide +kernel
theorem dX2_sortByFallingSize_71 : decode cX2_sortByFallingSize 71 = .ok (.iload 4, 2) := by decide +kernel
theorem dX2_sortByFallingSize_73 : decode cX2_sortByFallingSize 73 = .ok (.iconst 1, 1) := by decide +kernel
theorem dX2_sortByFallingSize_74 : decode cX2_sortByFallingSize 74 = .ok (.isub, 1) := by decide +kernel
theorem dX2_sortByFallingSize_75 : decode cX2_sortByFallingSize 75 = .ok (.iaload, 1) := by decide +kernel
theorem dX2_sortByFallingSize_76 : decode cX2_sortByFallingSize 76 = .ok (.iastore, 1) := by decide +kernel
theorem dX2_sortByFallingSize_77 : decode cX2_sortByFallingSize 77 = .ok (.iinc 4 (-1), 3) := by decide +kernel
theorem dX2_sortByFallingSize_80 : decode cX2_sortByFallingSize 80 = .ok (.goto (-53), 3) := by decide +kernel
theorem dX2_sortByFallingSize_83 : decode cX2_sortByFallingSize 83 = .ok (.aload_n 0, 1) := by decide +kernel
theorem dX2_sortByFallingSize_84 : decode cX2_sortByFallingSize 84 = .ok (.getfield 9, 3) := by decide +kernel
theorem dX2_sortByFallingSize_87 : decode cX2_sortByFallingSize 87 = .ok (.iload 4, 2) := by decide +kernel
theorem dX2_sortByFallingSize_89 : decode cX2_sortByFallingSize 89 = .ok (.iload_n 2, 1) := by decide +kernel
theorem dX2_sortByFallingSize_90 : decode cX2_sortByFallingSize 90 = .ok (.iastore, 1) := by decide +kernel
theorem dX2_sortByFallingSize_91 : decode cX2_sortByFallingSize 91 = .ok (.aload_n 0, 1) := by decide +kernel
theorem dX2_sortByFallingSize_92 : decode cX2_sortByFallingSize 92 = .ok (.getfield 15, 3) := by decide +kernel
theorem dX2_sortByFallingSize_95 : decode cX2_sortByFallingSize 95 = .ok (.iload 4, 2) := by decide +kernel
theorem dX2_sortByFallingSize_97 : decode cX2_sortByFallingSize 97 = .ok (.iload_n 3, 1) := by decide +kernel
theorem dX2_sortByFallingSize_98 : decode cX2_sortByFallingSize 98 = .ok (.iastore, 1) := by decide +kernel
theorem dX2_sortByFallingSize_99 : decode cX2_sortByFallingSize 99 = .ok (.iinc 1 1, 3) := by decide +kernel
theorem dX2_sortByFallingSize_102 : decode cX2_sortByFallingSize 102 = .ok (.goto (-100), 3) := by decide +kernel
theorem dX2_sortByFallingSize_105 : decode cX2_sortByFallingSize 105 = .ok (.return_, 1) := by decide +kernel
set_option maxRecDepth 20000 in
theorem ggX2_endOfRow_X2_pixelsPerSize : GoodIn wsX2_endOfRow wsX2_pixelsPerSize := goodIn_r _ [13, 8, 1, 2, 3, 14, 15, 16, 12, 17, 18, 29, 30, 31, 32, 33, 34, 35, 36, 37, 38, 39, 40] (by decide +kernel) (by decide +kernel)
set_option maxRecDepth 20000 in
theorem gX2_endOfRow_X2_pixelsPerSize : GoodIn wsX2_endOfRow (wsV RX2 82 RX2 yX2_pixelsPerSize wsX2_pixelsPerSize) := goodIn_app (goodIn_of _ (by decide +kernel)) ggX2_endOfRow_X2_pixelsPerSize
set_option maxRecDepth 20000 in
theorem ggX2_endOfRow_X2_worstRatio : GoodIn wsX2_endOfRow wsX2_worstRatio := goodIn_r _ [22, 18, 14, 15, 16, 12, 17, 23, 24, 25, 26, 27, 28, 29, 30, 31, 32, 33, 34, 35, 36] (by decide +kernel) (by decide +kernel)
set_option maxRecDepth 20000 in
theorem gX2_endOfRow_X2_worstRatio : GoodIn wsX2_endOfRow (wsV RX2 128 RX2 yX2_worstRatio wsX2_worstRatio) := goodIn_app (goodIn_of _ (by decide +kernel)) ggX2_endOfRow_X2_worstRatio
theorem dX2_endOfRow_0 : decode cX2_endOfRow 0 = .ok (.aload_n 0, 1) := by decide +kernel
theorem dX2_endOfRow_1 : decode cX2_endOfRow 1 = .ok (.iload_n 1, 1) := by decide +kernel
theorem dX2_endOfRow_2 : decode cX2_endOfRow 2 = .ok (.invokevirtual 82, 3) := by decide +kernel
theorem dX2_endOfRow_5 : decode cX2_endOfRow 5 = .ok (.fstore_n 2, 1) := by decide +kernel
theorem dX2_endOfRow_6 : decode cX2_endOfRow 6 = .ok (.aload_n 0, 1) := by decide +kernel
theorem dX2_endOfRow_7 : decode cX2_endOfRow 7 = .ok (.getfield 21, 3) := by decide +kernel
theorem dX2_endOfRow_10 : decode cX2_endOfRow 10 = .ok (.getfield 59, 3) := by decide +kernel
theorem dX2_endOfRow_13 : decode cX2_endOfRow 13 = .ok (.aload_n 0, 1) := by decide +kernel
theorem dX2_endOfRow_14 : decode cX2_endOfRow 14 = .ok (.getfield 21, 3) := by decide +kernel
theorem dX2_endOfRow_17 : decode cX2_endOfRow 17 = .ok (.getfield 62, 3) := by decide +kernel
theorem dX2_endOfRow_20 : decode cX2_endOfRow 20 = .ok (.invokestatic 123, 3) := by decide +kernel
theorem dX2_endOfRow_23 : decode cX2_endOfRow 23 = .ok (.istore_n 3, 1) := by decide +kernel
theorem dX2_endOfRow_24 : decode cX2_endOfRow 24 = .ok (.aload_n 0, 1) := by decide +kernel
theorem dX2_endOfRow_25 : decode cX2_endOfRow 25 = .ok (.iload_n 1, 1) := by decide +kernel
theorem dX2_endOfRow_26 : decode cX2_endOfRow 26 = .ok (.iload_n 1, 1) := by decide +kernel
theorem dX2_endOfRow_27 : decode cX2_endOfRow 27 = .ok (.iconst 1, 1) := by decide +kernel
theorem dX2_endOfRow_28 : decode cX2_endOfRow 28 = .ok (.iadd, 1) := by decide +kernel
theorem dX2_endOfRow_29 : decode cX2_endOfRow 29 = .ok (.fload_n 2, 1) := by decide +kernel
theorem dX2_endOfRow_30 : decode cX2_endOfRow 30 = .ok (.iload_n 3, 1) := by decide +kernel
theorem dX2_endOfRow_31 : decode cX2_endOfRow 31 = .ok (.invokevirtual 128, 3) := by decide +kernel
theorem dX2_endOfRow_34 : decode cX2_endOfRow 34 = .ok (.fstore 4, 2) := by decide +kernel
theorem dX2_endOfRow_36 : decode cX2_endOfRow 36 = .ok (.iload_n 1, 1) := by decide +kernel
theorem dX2_endOfRow_37 : decode cX2_endOfRow 37 = .ok (.iconst 1, 1) := by decide +kernel
theorem dX2_endOfRow_38 : decode cX2_endOfRow 38 = .ok (.iadd, 1) := by decide +kernel
theorem dX2_endOfRow_39 : decode cX2_endOfRow 39 = .ok (.istore 5, 2) := by decide +kernel
theorem dX2_endOfRow_41 : decode cX2_endOfRow 41 = .ok (.iload 5, 2) := by decide +kernel
theorem dX2_endOfRow_43 : decode cX2_endOfRow 43 = .ok (.aload_n 0, 1) := by decide +kernel
theorem dX2_endOfRow_44 : decode cX2_endOfRow 44 = .ok (.getfield 41, 3) := by decide +kernel
theorem dX2_endOfRow_47 : decode cX2_endOfRow 47 = .ok (.if_icmp .ge 37, 3) := by decide +kernel
theorem dX2_endOfRow_50 : decode cX2_endOfRow 50 = .ok (.aload_n 0, 1) := by decide +kernel
theorem dX2_endOfRow_51 : decode cX2_endOfRow 51 = .ok (.iload_n 1, 1) := by decide +kernel
theorem dX2_endOfRow_52 : decode cX2_endOfRow 52 = .ok (.iload 5, 2) := by decide +kernel
theorem dX2_endOfRow_54 : decode cX2_endOfRow 54 = .ok (.iconst 1, 1) := by decide +kernel
theorem dX2_endOfRow_55 : decode cX2_endOfRow 55 = .ok (.iadd, 1) := by decide +kernel
theorem dX2_endOfRow_56 : decode cX2_endOfRow 56 = .ok (.fload_n 2, 1) := by decide +kernel
theorem dX2_endOfRow_57 : decode cX2_endOfRow 57 = .ok (.iload_n 3, 1) := by decide +kernel
theorem dX2_endOfRow_58 : decode cX2_endOfRow 58 = .ok (.invokevirtual 128, 3) := by decide +kernel
theorem dX2_endOfRow_61 : decode cX2_endOfRow 61 = .ok (.fstore 6, 2) := by decide +kernel
theorem dX2_endOfRow_63 : decode cX2_endOfRow 63 = .ok (.fload 6, 2) := by decide +kernel
theorem dX2_endOfRow_65 : decode cX2_endOfRow 65 = .ok (.fload 4, 2) := by decide +kernel
theorem dX2_endOfRow_67 : decode cX2_endOfRow 67 = .ok (.fcmp .l, 1) := by decide +kernel
theorem dX2_endOfRow_68 : decode cX2_endOfRow 68 = .ok (.ifCond .le 6, 3) := by decide +kernel
theorem dX2_endOfRow_71 : decode cX2_endOfRow 71 = .ok (.iload 5, 2) := by decide +kernel
theorem dX2_endOfRow_73 : decode cX2_endOfRow 73 = .ok (.ireturn, 1) := by decide +kernel
theorem dX2_endOfRow_74 : decode cX2_endOfRow 74 = .ok (.fload 6, 2) := by decide +kernel
theorem dX2_endOfRow_76 : decode cX2_endOfRow 76 = .ok (.fstore 4, 2) := by decide +kernel
theorem dX2_endOfRow_78 : decode cX2_endOfRow 78 = .ok (.iinc 5 1, 3) := by decide +kernel
theorem dX2_endOfRow_81 : decode cX2_endOfRow 81 = .ok (.goto (-40), 3) := by decide +kernel
theorem dX2_endOfRow_84 : decode cX2_endOfRow 84 = .ok (.aload_n 0, 1) := by decide +kernel
theorem dX2_endOfRow_85 : decode cX2_endOfRow 85 = .ok (.getfield 41, 3) := by decide +kernel
theorem dX2_endOfRow_88 : decode cX2_endOfRow 88 = .ok (.ireturn, 1) := by decide +kernel
set_option maxRecDepth 20000 in
theorem ggX2_worstRatio_X2_sumOfSizes : GoodIn wsX2_worstRatio wsX2_sumOfSizes := goodIn_r _ [6, 1, 13, 14, 15, 16, 17, 18, 19, 20] (by decide +kernel) (by decide +kernel)
set_option maxRecDepth 20000 in
theorem gX2_worstRatio_X2_sumOfSizes : GoodIn wsX2_worstRatio (wsV RX2 93 RX2 yX2_sumOfSizes wsX2_sumOfSizes) := goodIn_app (goodIn_of _ (by decide +kernel)) ggX2_worstRatio_X2_sumOfSizes
set_option maxRecDepth 20000 in
theorem ggX2_worstRatio_X2_thicknessOf : GoodIn wsX2_worstRatio wsX2_thicknessOf := goodIn_r _ [9] (by decide +kernel) (by decide +kernel)
set_option maxRecDepth 20000 in
theorem gX2_worstRatio_X2_thicknessOf : GoodIn wsX2_worstRatio (va_wsS RX2 100 yX2_thicknessOf wsX2_thicknessOf) := goodIn_app (goodIn_of _ (by decide +kernel)) ggX2_worstRatio_X2_thicknessOf
set_option maxRecDepth 20000 in
theorem ggX2_worstRatio_X2_ratio : GoodIn wsX2_worstRatio wsX2_ratio := goodIn_r _ [12] (by decide +kernel) (by decide +kernel)
set_option maxRecDepth 20000 in
theorem gX2_worstRatio_X2_ratio : GoodIn wsX2_worstRatio (va_wsS RX2 104 yX2_ratio wsX2_ratio) := goodIn_app (goodIn_of _ (by decide +kernel)) ggX2_worstRatio_X2_ratio
theorem dX2_worstRatio_0 : decode cX2_worstRatio 0 = .ok (.aload_n 0, 1) := by decide +kernel
theorem dX2_worstRatio_1 : decode cX2_worstRatio 1 = .ok (.iload_n 1, 1) := by decide +kernel
theorem dX2_worstRatio_2 : decode cX2_worstRatio 2 = .ok (.iload_n 2, 1) := by decide +kernel
theorem dX2_worstRatio_3 : decode cX2_worstRatio 3 = .ok (.invokevirtual 93, 3) := by decide +kernel
theorem dX2_worstRatio_6 : decode cX2_worstRatio 6 = .ok (.fload_n 3, 1) := by decide +kernel
theorem dX2_worstRatio_7 : decode cX2_worstRatio 7 = .ok (.iload 4, 2) := by decide +kernel
theorem dX2_worstRatio_9 : decode cX2_worstRatio 9 = .ok (.invokestatic 100, 3) := by decide +kernel
theorem dX2_worstRatio_12 : decode cX2_worstRatio 12 = .ok (.fstore 5, 2) := by decide +kernel
theorem dX2_worstRatio_14 : decode cX2_worstRatio 14 = .ok (.fconst 0, 1) := by decide +kernel
theorem dX2_worstRatio_15 : decode cX2_worstRatio 15 = .ok (.fstore 6, 2) := by decide +kernel
theorem dX2_worstRatio_17 : decode cX2_worstRatio 17 = .ok (.iload_n 1, 1) := by decide +kernel
theorem dX2_worstRatio_18 : decode cX2_worstRatio 18 = .ok (.istore 7, 2) := by decide +kernel
theorem dX2_worstRatio_20 : decode cX2_worstRatio 20 = .ok (.iload 7, 2) := by decide +kernel
theorem dX2_worstRatio_22 : decode cX2_worstRatio 22 = .ok (.iload_n 2, 1) := by decide +kernel
theorem dX2_worstRatio_23 : decode cX2_worstRatio 23 = .ok (.if_icmp .ge 41, 3) := by decide +kernel
theorem dX2_worstRatio_26 : decode cX2_worstRatio 26 = .ok (.aload_n 0, 1) := by decide +kernel
theorem dX2_worstRatio_27 : decode cX2_worstRatio 27 = .ok (.getfield 15, 3) := by decide +kernel
theorem dX2_worstRatio_30 : decode cX2_worstRatio 30 = .ok (.iload 7, 2) := by decide +kernel
theorem dX2_worstRatio_32 : decode cX2_worstRatio 32 = .ok (.iaload, 1) := by decide +kernel
theorem dX2_worstRatio_33 : decode cX2_worstRatio 33 = .ok (.fload_n 3, 1) := by decide +kernel
theorem dX2_worstRatio_34 : decode cX2_worstRatio 34 = .ok (.fload 5, 2) := by decide +kernel
theorem dX2_worstRatio_36 : decode cX2_worstRatio 36 = .ok (.invokestatic 104, 3) := by decide +kernel
theorem dX2_worstRatio_39 : decode cX2_worstRatio 39 = .ok (.fstore 8, 2) := by decide +kernel
theorem dX2_worstRatio_41 : decode cX2_worstRatio 41 = .ok (.fload 8, 2) := by decide +kernel
theorem dX2_worstRatio_43 : decode cX2_worstRatio 43 = .ok (.fload 6, 2) := by decide +kernel
theorem dX2_worstRatio_45 : decode cX2_worstRatio 45 = .ok (.fcmp .l, 1) := by decide +kernel
theorem dX2_worstRatio_46 : decode cX2_worstRatio 46 = .ok (.ifCond .lt 8, 3) := by decide +kernel
theorem dX2_worstRatio_49 : decode cX2_worstRatio 49 = .ok (.fload 8, 2) := by decide +kernel
theorem dX2_worstRatio_51 : decode cX2_worstRatio 51 = .ok (.goto 5, 3) := by decide +kernel
theorem dX2_worstRatio_54 : decode cX2_worstRatio 54 = .ok (.fload 6, 2) := by decide +kernel
theorem dX2_worstRatio_56 : decode cX2_worstRatio 56 = .ok (.fstore 6, 2) := by decide +kernel
theorem dX2_worstRatio_58 : decode cX2_worstRatio 58 = .ok (.iinc 7 1, 3) := by decide +kernel
theorem dX2_worstRatio_61 : decode cX2_worstRatio 61 = .ok (.goto (-41), 3) := by decide +kernel
theorem dX2_worstRatio_64 : decode cX2_worstRatio 64 = .ok (.fload 6, 2) := by decide +kernel
theorem dX2_worstRatio_66 : decode cX2_worstRatio 66 = .ok (.freturn, 1) := by decide +kernel
set_option maxRecDepth 20000 in
theorem ggX2_cutBand_X2_rowThickness : GoodIn wsX2_cutBand wsX2_rowThickness := goodIn_r _ [11, 12, 13, 14, 15, 10, 16, 17, 27, 28, 29, 30, 31, 32, 33, 34] (by decide +kernel) (by decide +kernel)
set_option maxRecDepth 20000 in
theorem gX2_cutBand_X2_rowThickness : GoodIn wsX2_cutBand (wsV RX2 132 RX2 yX2_rowThickness wsX2_rowThickness) := goodIn_app (goodIn_of _ (by decide +kernel)) ggX2_cutBand_X2_rowThickness
set_option maxRecDepth 20000 in
theorem ggX2_cutBand_X0_set : GoodIn wsX2_cutBand wsX0_set := goodIn_r _ [22, 23, 24, 25, 26, 35, 36, 37, 38] (by decide +kernel) (by decide +kernel)
set_option maxRecDepth 20000 in
theorem gX2_cutBand_X0_set : GoodIn wsX2_cutBand (wsV RX2 45 RX0 yX0_set wsX0_set) := goodIn_app (goodIn_of _ (by decide +kernel)) ggX2_cutBand_X0_set
theorem dX2_cutBand_0 : decode cX2_cutBand 0 = .ok (.iload_n 3, 1) := by decide +kernel
theorem dX2_cutBand_1 : decode cX2_cutBand 1 = .ok (.ifCond .eq 79, 3) := by decide +kernel
theorem dX2_cutBand_4 : decode cX2_cutBand 4 = .ok (.aload_n 0, 1) := by decide +kernel
theorem dX2_cutBand_5 : decode cX2_cutBand 5 = .ok (.iload_n 1, 1) := by decide +kernel
theorem dX2_cutBand_6 : decode cX2_cutBand 6 = .ok (.iload_n 2, 1) := by decide +kernel
theorem dX2_cutBand_7 : decode cX2_cutBand 7 = .ok (.aload_n 0, 1) := by decide +kernel
theorem dX2_cutBand_8 : decode cX2_cutBand 8 = .ok (.getfield 21, 3) := by decide +kernel
theorem dX2_cutBand_11 : decode cX2_cutBand 11 = .ok (.getfield 59, 3) := by decide +kernel
theorem dX2_cutBand_14 : decode cX2_cutBand 14 = .ok (.invokevirtual 132, 3) := by decide +kernel
theorem dX2_cutBand_17 : decode cX2_cutBand 17 = .ok (.istore 4, 2) := by decide +kernel
theorem dX2_cutBand_19 : decode cX2_cutBand 19 = .ok (.aload_n 0, 1) := by decide +kernel
theorem dX2_cutBand_20 : decode cX2_cutBand 20 = .ok (.getfield 25, 3) := by decide +kernel
theorem dX2_cutBand_23 : decode cX2_cutBand 23 = .ok (.aload_n 0, 1) := by decide +kernel
theorem dX2_cutBand_24 : decode cX2_cutBand 24 = .ok (.getfield 21, 3) := by decide +kernel
theorem dX2_cutBand_27 : decode cX2_cutBand 27 = .ok (.getfield 53, 3) := by decide +kernel
theorem dX2_cutBand_30 : decode cX2_cutBand 30 = .ok (.aload_n 0, 1) := by decide +kernel
theorem dX2_cutBand_31 : decode cX2_cutBand 31 = .ok (.getfield 21, 3) := by decide +kernel
theorem dX2_cutBand_34 : decode cX2_cutBand 34 = .ok (.getfield 56, 3) := by decide +kernel
theorem dX2_cutBand_37 : decode cX2_cutBand 37 = .ok (.iload 4, 2) := by decide +kernel
theorem dX2_cutBand_39 : decode cX2_cutBand 39 = .ok (.aload_n 0, 1) := by decide +kernel
theorem dX2_cutBand_40 : decode cX2_cutBand 40 = .ok (.getfield 21, 3) := by decide +kernel
theorem dX2_cutBand_43 : decode cX2_cutBand 43 = .ok (.getfield 62, 3) := by decide +kernel
theorem dX2_cutBand_46 : decode cX2_cutBand 46 = .ok (.invokevirtual 45, 3) := by decide +kernel
theorem dX2_cutBand_49 : decode cX2_cutBand 49 = .ok (.aload_n 0, 1) := by decide +kernel
theorem dX2_cutBand_50 : decode cX2_cutBand 50 = .ok (.getfield 21, 3) := by decide +kernel
theorem dX2_cutBand_53 : decode cX2_cutBand 53 = .ok (.dup, 1) := by decide +kernel
theorem dX2_cutBand_54 : decode cX2_cutBand 54 = .ok (.getfield 53, 3) := by decide +kernel
theorem dX2_cutBand_57 : decode cX2_cutBand 57 = .ok (.iload 4, 2) := by decide +kernel
theorem dX2_cutBand_59 : decode cX2_cutBand 59 = .ok (.iadd, 1) := by decide +kernel
theorem dX2_cutBand_60 : decode cX2_cutBand 60 = .ok (.putfield 53, 3) := by decide +kernel
theorem dX2_cutBand_63 : decode cX2_cutBand 63 = .ok (.aload_n 0, 1) := by decide +kernel
theorem dX2_cutBand_64 : decode cX2_cutBand 64 = .ok (.getfield 21, 3) := by decide +kernel
theorem dX2_cutBand_67 : decode cX2_cutBand 67 = .ok (.dup, 1) := by decide +kernel
theorem dX2_cutBand_68 : decode cX2_cutBand 68 = .ok (.getfield 59, 3) := by decide +kernel
theorem dX2_cutBand_71 : decode cX2_cutBand 71 = .ok (.iload 4, 2) := by decide +kernel
theorem dX2_cutBand_73 : decode cX2_cutBand 73 = .ok (.isub, 1) := by decide +kernel
theorem dX2_cutBand_74 : decode cX2_cutBand 74 = .ok (.putfield 59, 3) := by decide +kernel
theorem dX2_cutBand_77 : decode cX2_cutBand 77 = .ok (.goto 76, 3) := by decide +kernel
theorem dX2_cutBand_80 : decode cX2_cutBand 80 = .ok (.aload_n 0, 1) := by decide +kernel
theorem dX2_cutBand_81 : decode cX2_cutBand 81 = .ok (.iload_n 1, 1) := by decide +kernel
theorem dX2_cutBand_82 : decode cX2_cutBand 82 = .ok (.iload_n 2, 1) := by decide +kernel
theorem dX2_cutBand_83 : decode cX2_cutBand 83 = .ok (.aload_n 0, 1) := by decide +kernel
theorem dX2_cutBand_84 : decode cX2_cutBand 84 = .ok (.getfield 21, 3) := by decide +kernel
theorem dX2_cutBand_87 : decode cX2_cutBand 87 = .ok (.getfield 62, 3) := by decide +kernel
theorem dX2_cutBand_90 : decode cX2_cutBand 90 = .ok (.invokevirtual 132, 3) := by decide +kernel
theorem dX2_cutBand_93 : decode cX2_cutBand 93 = .ok (.istore 4, 2) := by decide +kernel
theorem dX2_cutBand_95 : decode cX2_cutBand 95 = .ok (.aload_n 0, 1) := by decide +kernel
theorem dX2_cutBand_96 : decode cX2_cutBand 96 = .ok (.getfield 25, 3) := by decide +kernel
theorem dX2_cutBand_99 : decode cX2_cutBand 99 = .ok (.aload_n 0, 1) := by decide +kernel
theorem dX2_cutBand_100 : decode cX2_cutBand 100 = .ok (.getfield 21, 3) := by decide +kernel
theorem dX2_cutBand_103 : decode cX2_cutBand 103 = .ok (.getfield 53, 3) := by decide +kernel
theorem dX2_cutBand_106 : decode cX2_cutBand 106 = .ok (.aload_n 0, 1) := by decide +kernel
theorem dX2_cutBand_107 : decode cX2_cutBand 107 = .ok (.getfield 21, 3) := by decide +kernel
theorem dX2_cutBand_110 : decode cX2_cutBand 110 = .ok (.getfield 56, 3) := by decide +kernel
theorem dX2_cutBand_113 : decode cX2_cutBand 113 = .ok (.aload_n 0, 1) := by decide +kernel
theorem dX2_cutBand_114 : decode cX2_cutBand 114 = .ok (.getfield 21, 3) := by decide +kernel
theorem dX2_cutBand_117 : decode cX2_cutBand 117 = .ok (.getfield 59, 3) := by decide +kernel
theorem dX2_cutBand_120 : decode cX2_cutBand 120 = .ok (.iload 4, 2) := by decide +kernel
theorem dX2_cutBand_122 : decode cX2_cutBand 122 = .ok (.invokevirtual 45, 3) := by decide +kernel
theorem dX2_cutBand_125 : decode cX2_cutBand 125 = .ok (.aload_n 0, 1) := by decide +kernel
theorem dX2_cutBand_126 : decode cX2_cutBand 126 = .ok (.getfield 21, 3) := by decide +kernel
theorem dX2_cutBand_129 : decode cX2_cutBand 129 = .ok (.dup, 1) := by decide +kernel
theorem dX2_cutBand_130 : decode cX2_cutBand 130 = .ok (.getfield 56, 3) := by decide +kernel
theorem dX2_cutBand_133 : decode cX2_cutBand 133 = .ok (.iload 4, 2) := by decide +kernel
theorem dX2_cutBand_135 : decode cX2_cutBand 135 = .ok (.iadd, 1) := by decide +kernel
theorem dX2_cutBand_136 : decode cX2_cutBand 136 = .ok (.putfield 56, 3) := by decide +kernel
theorem dX2_cutBand_139 : decode cX2_cutBand 139 = .ok (.aload_n 0, 1) := by decide +kernel
theorem dX2_cutBand_140 : decode cX2_cutBand 140 = .ok (.getfield 21, 3) := by decide +kernel
theorem dX2_cutBand_143 : decode cX2_cutBand 143 = .ok (.dup, 1) := by decide +kernel
theorem dX2_cutBand_144 : decode cX2_cutBand 144 = .ok (.getfield 62, 3) := by decide +kernel
theorem dX2_cutBand_147 : decode cX2_cutBand 147 = .ok (.iload 4, 2) := by decide +kernel
theorem dX2_cutBand_149 : decode cX2_cutBand 149 = .ok (.isub, 1) := by decide +kernel
theorem dX2_cutBand_150 : decode cX2_cutBand 150 = .ok (.putfield 62, 3) := by decide +kernel
theorem dX2_cutBand_153 : decode cX2_cutBand 153 = .ok (.return_, 1) := by decide +kernel
set_option maxRecDepth 20000 in
theorem ggX2_rowThickness_X2_sumOfSizes : GoodIn wsX2_rowThickness wsX2_sumOfSizes := goodIn_r _ [6, 7, 8, 9, 10, 11, 12, 13, 14, 15] (by decide +kernel) (by decide +kernel)
set_option maxRecDepth 20000 in
theorem gX2_rowThickness_X2_sumOfSizes : GoodIn wsX2_rowThickness (wsV RX2 93 RX2 yX2_sumOfSizes wsX2_sumOfSizes) := goodIn_app (goodIn_of _ (by decide +kernel)) ggX2_rowThickness_X2_sumOfSizes
theorem dX2_rowThickness_0 : decode cX2_rowThickness 0 = .ok (.aload_n 0, 1) := by decide +kernel
theorem dX2_rowThickness_1 : decode cX2_rowThickness 1 = .ok (.iload_n 1, 1) := by decide +kernel
theorem dX2_rowThickness_2 : decode cX2_rowThickness 2 = .ok (.aload_n 0, 1) := by decide +kernel
theorem dX2_rowThickness_3 : decode cX2_rowThickness 3 = .ok (.getfield 41, 3) := by decide +kernel
theorem dX2_rowThickness_6 : decode cX2_rowThickness 6 = .ok (.invokevirtual 93, 3) := by decide +kernel
theorem dX2_rowThickness_9 : decode cX2_rowThickness 9 = .ok (.istore 4, 2) := by decide +kernel
theorem dX2_rowThickness_11 : decode cX2_rowThickness 11 = .ok (.iload_n 2, 1) := by decide +kernel
theorem dX2_rowThickness_12 : decode cX2_rowThickness 12 = .ok (.aload_n 0, 1) := by decide +kernel
theorem dX2_rowThickness_13 : decode cX2_rowThickness 13 = .ok (.getfield 41, 3) := by decide +kernel
theorem dX2_rowThickness_16 : decode cX2_rowThickness 16 = .ok (.if_icmp .ge 8, 3) := by decide +kernel
theorem dX2_rowThickness_19 : decode cX2_rowThickness 19 = .ok (.iload 4, 2) := by decide +kernel
theorem dX2_rowThickness_21 : decode cX2_rowThickness 21 = .ok (.ifCond .gt 5, 3) := by decide +kernel
theorem dX2_rowThickness_24 : decode cX2_rowThickness 24 = .ok (.iload_n 3, 1) := by decide +kernel
theorem dX2_rowThickness_25 : decode cX2_rowThickness 25 = .ok (.ireturn, 1) := by decide +kernel
theorem dX2_rowThickness_26 : decode cX2_rowThickness 26 = .ok (.iconst 2, 1) := by decide +kernel
theorem dX2_rowThickness_27 : decode cX2_rowThickness 27 = .ok (.aload_n 0, 1) := by decide +kernel
theorem dX2_rowThickness_28 : decode cX2_rowThickness 28 = .ok (.iload_n 1, 1) := by decide +kernel
theorem dX2_rowThickness_29 : decode cX2_rowThickness 29 = .ok (.iload_n 2, 1) := by decide +kernel
theorem dX2_rowThickness_30 : decode cX2_rowThickness 30 = .ok (.invokevirtual 93, 3) := by decide +kernel
theorem dX2_rowThickness_33 : decode cX2_rowThickness 33 = .ok (.imul, 1) := by decide +kernel
theorem dX2_rowThickness_34 : decode cX2_rowThickness 34 = .ok (.iload_n 3, 1) := by decide +kernel
theorem dX2_rowThickness_35 : decode cX2_rowThickness 35 = .ok (.imul, 1) := by decide +kernel
theorem dX2_rowThickness_36 : decode cX2_rowThickness 36 = .ok (.iload 4, 2) := by decide +kernel
theorem dX2_rowThickness_38 : decode cX2_rowThickness 38 = .ok (.iadd, 1) := by decide +kernel
theorem dX2_rowThickness_39 : decode cX2_rowThickness 39 = .ok (.iconst 2, 1) := by decide +kernel
theorem dX2_rowThickness_40 : decode cX2_rowThickness 40 = .ok (.iload 4, 2) := by decide +kernel
theorem dX2_rowThickness_42 : decode cX2_rowThickness 42 = .ok (.imul, 1) := by decide +kernel
theorem dX2_rowThickness_43 : decode cX2_rowThickness 43 = .ok (.idiv, 1) := by decide +kernel
theorem dX2_rowThickness_44 : decode cX2_rowThickness 44 = .ok (.ireturn, 1) := by decide +kernel
set_option maxRecDepth 20000 in
theorem ggX2_collapse_X3_put : GoodIn wsX2_collapse wsX3_put := goodIn_r _ [10, 11, 12, 13, 14, 27, 28, 29, 30] (by decide +kernel) (by decide +kernel)
set_option maxRecDepth 20000 in
theorem gX2_collapse_X3_put : GoodIn wsX2_collapse (wsV RX2 136 RX3 yX3_put wsX3_put) := goodIn_app (goodIn_of _ (by decide +kernel)) ggX2_collapse_X3_put
theorem dX2_collapse_0 : decode cX2_collapse 0 = .ok (.iload_n 1, 1) := by decide +kernel
theorem dX2_collapse_1 : decode cX2_collapse 1 = .ok (.istore_n 3, 1) := by decide +kernel
theorem dX2_collapse_2 : decode cX2_collapse 2 = .ok (.iload_n 3, 1) := by decide +kernel
theorem dX2_collapse_3 : decode cX2_collapse 3 = .ok (.aload_n 0, 1) := by decide +kernel
theorem dX2_collapse_4 : decode cX2_collapse 4 = .ok (.getfield 41, 3) := by decide +kernel
theorem dX2_collapse_7 : decode cX2_collapse 7 = .ok (.if_icmp .ge 35, 3) := by decide +kernel
theorem dX2_collapse_10 : decode cX2_collapse 10 = .ok (.aload_n 2, 1) := by decide +kernel
theorem dX2_collapse_11 : decode cX2_collapse 11 = .ok (.aload_n 0, 1) := by decide +kernel
theorem dX2_collapse_12 : decode cX2_collapse 12 = .ok (.getfield 9, 3) := by decide +kernel
theorem dX2_collapse_15 : decode cX2_collapse 15 = .ok (.iload_n 3, 1) := by decide +kernel
theorem dX2_collapse_16 : decode cX2_collapse 16 = .ok (.iaload, 1) := by decide +kernel
theorem dX2_collapse_17 : decode cX2_collapse 17 = .ok (.aload_n 0, 1) := by decide +kernel
theorem dX2_collapse_18 : decode cX2_collapse 18 = .ok (.getfield 21, 3) := by decide +kernel
theorem dX2_collapse_21 : decode cX2_collapse 21 = .ok (.getfield 53, 3) := by decide +kernel
theorem dX2_collapse_24 : decode cX2_collapse 24 = .ok (.aload_n 0, 1) := by decide +kernel
theorem dX2_collapse_25 : decode cX2_collapse 25 = .ok (.getfield 21, 3) := by decide +kernel
theorem dX2_collapse_28 : decode cX2_collapse 28 = .ok (.getfield 56, 3) := by decide +kernel
theorem dX2_collapse_31 : decode cX2_collapse 31 = .ok (.iconst 0, 1) := by decide +kernel
theorem dX2_collapse_32 : decode cX2_collapse 32 = .ok (.iconst 0, 1) := by decide +kernel
theorem dX2_collapse_33 : decode cX2_collapse 33 = .ok (.invokevirtual 136, 3) := by decide +kernel
theorem dX2_collapse_36 : decode cX2_collapse 36 = .ok (.iinc 3 1, 3) := by decide +kernel
theorem dX2_collapse_39 : decode cX2_collapse 39 = .ok (.goto (-37), 3) := by decide +kernel
theorem dX2_collapse_42 : decode cX2_collapse 42 = .ok (.return_, 1) := by decide +kernel
set_option maxRecDepth 20000 in
theorem ggX2_fillBand_X4_clear : GoodIn wsX2_fillBand wsX4_clear := goodIn_r _ [14, 15, 52, 53, 54, 55] (by decide +kernel) (by decide +kernel)
set_option maxRecDepth 20000 in
theorem gX2_fillBand_X4_clear : GoodIn wsX2_fillBand (wsV RX2 86 RX4 yX4_clear wsX4_clear) := goodIn_app (goodIn_of _ (by decide +kernel)) ggX2_fillBand_X4_clear
set_option maxRecDepth 20000 in
theorem ggX2_fillBand_X4_add : GoodIn wsX2_fillBand wsX4_add := goodIn_r _ [19, 15, 20, 52, 53, 54, 55] (by decide +kernel) (by decide +kernel)
set_option maxRecDepth 20000 in
theorem gX2_fillBand_X4_add : GoodIn wsX2_fillBand (wsV RX2 97 RX4 yX4_add wsX4_add) := goodIn_app (goodIn_of _ (by decide +kernel)) ggX2_fillBand_X4_add
set_option maxRecDepth 20000 in
theorem ggX2_fillBand_X4_apportion : GoodIn wsX2_fillBand wsX4_apportion := goodIn_r _ [24, 15, 20, 25, 26, 27, 28, 29, 13, 30, 52, 53, 54, 55] (by decide +kernel) (by decide +kernel)
set_option maxRecDepth 20000 in
theorem gX2_fillBand_X4_apportion : GoodIn wsX2_fillBand (wsV RX2 72 RX4 yX4_apportion wsX4_apportion) := goodIn_app (goodIn_of _ (by decide +kernel)) ggX2_fillBand_X4_apportion
set_option maxRecDepth 20000 in
theorem ggX2_fillBand_X3_put : GoodIn wsX2_fillBand wsX3_put := goodIn_r _ [35, 36, 37, 38, 39, 56, 57, 58, 59] (by decide +kernel) (by decide +kernel)
set_option maxRecDepth 20000 in
theorem gX2_fillBand_X3_put : GoodIn wsX2_fillBand (wsV RX2 136 RX3 yX3_put wsX3_put) := goodIn_app (goodIn_of _ (by decide +kernel)) ggX2_fillBand_X3_put
theorem dX2_fillBand_0 : decode cX2_fillBand 0 = .ok (.aload_n 0, 1) := by decide +kernel
theorem dX2_fillBand_1 : decode cX2_fillBand 1 = .ok (.getfield 31, 3) := by decide +kernel
theorem dX2_fillBand_4 : decode cX2_fillBand 4 = .ok (.invokevirtual 86, 3) := by decide +kernel
theorem dX2_fillBand_7 : decode cX2_fillBand 7 = .ok (.iload_n 1, 1) := by decide +kernel
theorem dX2_fillBand_8 : decode cX2_fillBand 8 = .ok (.istore 5, 2) := by decide +kernel
theorem dX2_fillBand_10 : decode cX2_fillBand 10 = .ok (.iload 5, 2) := by decide +kernel
theorem dX2_fillBand_12 : decode cX2_fillBand 12 = .ok (.iload_n 2, 1) := by decide +kernel
theorem dX2_fillBand_13 : decode cX2_fillBand 13 = .ok (.if_icmp .ge 23, 3) := by decide +kernel
theorem dX2_fillBand_16 : decode cX2_fillBand 16 = .ok (.aload_n 0, 1) := by decide +kernel
theorem dX2_fillBand_17 : decode cX2_fillBand 17 = .ok (.getfield 31, 3) := by decide +kernel
theorem dX2_fillBand_20 : decode cX2_fillBand 20 = .ok (.aload_n 0, 1) := by decide +kernel
theorem dX2_fillBand_21 : decode cX2_fillBand 21 = .ok (.getfield 15, 3) := by decide +kernel
theorem dX2_fillBand_24 : decode cX2_fillBand 24 = .ok (.iload 5, 2) := by decide +kernel
theorem dX2_fillBand_26 : decode cX2_fillBand 26 = .ok (.iaload, 1) := by decide +kernel
theorem dX2_fillBand_27 : decode cX2_fillBand 27 = .ok (.invokevirtual 97, 3) := by decide +kernel
theorem dX2_fillBand_30 : decode cX2_fillBand 30 = .ok (.iinc 5 1, 3) := by decide +kernel
theorem dX2_fillBand_33 : decode cX2_fillBand 33 = .ok (.goto (-23), 3) := by decide +kernel
theorem dX2_fillBand_36 : decode cX2_fillBand 36 = .ok (.aload_n 0, 1) := by decide +kernel
theorem dX2_fillBand_37 : decode cX2_fillBand 37 = .ok (.getfield 31, 3) := by decide +kernel
theorem dX2_fillBand_40 : decode cX2_fillBand 40 = .ok (.iload_n 3, 1) := by decide +kernel
theorem dX2_fillBand_41 : decode cX2_fillBand 41 = .ok (.ifCond .eq 13, 3) := by decide +kernel
theorem dX2_fillBand_44 : decode cX2_fillBand 44 = .ok (.aload_n 0, 1) := by decide +kernel
theorem dX2_fillBand_45 : decode cX2_fillBand 45 = .ok (.getfield 25, 3) := by decide +kernel
theorem dX2_fillBand_48 : decode cX2_fillBand 48 = .ok (.getfield 59, 3) := by decide +kernel
theorem dX2_fillBand_51 : decode cX2_fillBand 51 = .ok (.goto 10, 3) := by decide +kernel
theorem dX2_fillBand_54 : decode cX2_fillBand 54 = .ok (.aload_n 0, 1) := by decide +kernel
theorem dX2_fillBand_55 : decode cX2_fillBand 55 = .ok (.getfield 25, 3) := by decide +kernel
theorem dX2_fillBand_58 : decode cX2_fillBand 58 = .ok (.getfield 62, 3) := by decide +kernel
theorem dX2_fillBand_61 : decode cX2_fillBand 61 = .ok (.invokevirtual 72, 3) := by decide +kernel
theorem dX2_fillBand_64 : decode cX2_fillBand 64 = .ok (.iconst 0, 1) := by decide +kernel
theorem dX2_fillBand_65 : decode cX2_fillBand 65 = .ok (.istore 5, 2) := by decide +kernel
theorem dX2_fillBand_67 : decode cX2_fillBand 67 = .ok (.iload_n 1, 1) := by decide +kernel
theorem dX2_fillBand_68 : decode cX2_fillBand 68 = .ok (.istore 6, 2) := by decide +kernel
theorem dX2_fillBand_70 : decode cX2_fillBand 70 = .ok (.iload 6, 2) := by decide +kernel
theorem dX2_fillBand_72 : decode cX2_fillBand 72 = .ok (.iload_n 2, 1) := by decide +kernel
theorem dX2_fillBand_73 : decode cX2_fillBand 73 = .ok (.if_icmp .ge 113, 3) := by decide +kernel
theorem dX2_fillBand_76 : decode cX2_fillBand 76 = .ok (.aload_n 0, 1) := by decide +kernel
theorem dX2_fillBand_77 : decode cX2_fillBand 77 = .ok (.getfield 31, 3) := by decide +kernel
theorem dX2_fillBand_80 : decode cX2_fillBand 80 = .ok (.getfield 79, 3) := by decide +kernel
theorem dX2_fillBand_83 : decode cX2_fillBand 83 = .ok (.iload 6, 2) := by decide +kernel
theorem dX2_fillBand_85 : decode cX2_fillBand 85 = .ok (.iload_n 1, 1) := by decide +kernel
theorem dX2_fillBand_86 : decode cX2_fillBand 86 = .ok (.isub, 1) := by decide +kernel
theorem dX2_fillBand_87 : decode cX2_fillBand 87 = .ok (.iaload, 1) := by decide +kernel
theorem dX2_fillBand_88 : decode cX2_fillBand 88 = .ok (.istore 7, 2) := by decide +kernel
theorem dX2_fillBand_90 : decode cX2_fillBand 90 = .ok (.iload_n 3, 1) := by decide +kernel
theorem dX2_fillBand_91 : decode cX2_fillBand 91 = .ok (.ifCond .eq 44, 3) := by decide +kernel
theorem dX2_fillBand_94 : decode cX2_fillBand 94 = .ok (.aload 4, 2) := by decide +kernel
theorem dX2_fillBand_96 : decode cX2_fillBand 96 = .ok (.aload_n 0, 1) := by decide +kernel
theorem dX2_fillBand_97 : decode cX2_fillBand 97 = .ok (.getfield 9, 3) := by decide +kernel
theorem dX2_fillBand_100 : decode cX2_fillBand 100 = .ok (.iload 6, 2) := by decide +kernel
theorem dX2_fillBand_102 : decode cX2_fillBand 102 = .ok (.iaload, 1) := by decide +kernel
theorem dX2_fillBand_103 : decode cX2_fillBand 103 = .ok (.aload_n 0, 1) := by decide +kernel
theorem dX2_fillBand_104 : decode cX2_fillBand 104 = .ok (.getfield 25, 3) := by decide +kernel
theorem dX2_fillBand_107 : decode cX2_fillBand 107 = .ok (.getfield 53, 3) := by decide +kernel
theorem dX2_fillBand_110 : decode cX2_fillBand 110 = .ok (.iload 5, 2) := by decide +kernel
theorem dX2_fillBand_112 : decode cX2_fillBand 112 = .ok (.iadd, 1) := by decide +kernel
theorem dX2_fillBand_113 : decode cX2_fillBand 113 = .ok (.aload_n 0, 1) := by decide +kernel
theorem dX2_fillBand_114 : decode cX2_fillBand 114 = .ok (.getfield 25, 3) := by decide +kernel
theorem dX2_fillBand_117 : decode cX2_fillBand 117 = .ok (.getfield 56, 3) := by decide +kernel
theorem dX2_fillBand_120 : decode cX2_fillBand 120 = .ok (.iload 7, 2) := by decide +kernel
theorem dX2_fillBand_122 : decode cX2_fillBand 122 = .ok (.aload_n 0, 1) := by decide +kernel
theorem dX2_fillBand_123 : decode cX2_fillBand 123 = .ok (.getfield 25, 3) := by decide +kernel
theorem dX2_fillBand_126 : decode cX2_fillBand 126 = .ok (.getfield 62, 3) := by decide +kernel
theorem dX2_fillBand_129 : decode cX2_fillBand 129 = .ok (.invokevirtual 136, 3) := by decide +kernel
theorem dX2_fillBand_132 : decode cX2_fillBand 132 = .ok (.goto 41, 3) := by decide +kernel
theorem dX2_fillBand_135 : decode cX2_fillBand 135 = .ok (.aload 4, 2) := by decide +kernel
theorem dX2_fillBand_137 : decode cX2_fillBand 137 = .ok (.aload_n 0, 1) := by decide +kernel
theorem dX2_fillBand_138 : decode cX2_fillBand 138 = .ok (.getfield 9, 3) := by decide +kernel
theorem dX2_fillBand_141 : decode cX2_fillBand 141 = .ok (.iload 6, 2) := by decide +kernel
theorem dX2_fillBand_143 : decode cX2_fillBand 143 = .ok (.iaload, 1) := by decide +kernel
theorem dX2_fillBand_144 : decode cX2_fillBand 144 = .ok (.aload_n 0, 1) := by decide +kernel
theorem dX2_fillBand_145 : decode cX2_fillBand 145 = .ok (.getfield 25, 3) := by decide +kernel
theorem dX2_fillBand_148 : decode cX2_fillBand 148 = .ok (.getfield 53, 3) := by decide +kernel
theorem dX2_fillBand_151 : decode cX2_fillBand 151 = .ok (.aload_n 0, 1) := by decide +kernel
theorem dX2_fillBand_152 : decode cX2_fillBand 152 = .ok (.getfield 25, 3) := by decide +kernel
theorem dX2_fillBand_155 : decode cX2_fillBand 155 = .ok (.getfield 56, 3) := by decide +kernel
theorem dX2_fillBand_158 : decode cX2_fillBand 158 = .ok (.iload 5, 2) := by decide +kernel
theorem dX2_fillBand_160 : decode cX2_fillBand 160 = .ok (.iadd, 1) := by decide +kernel
theorem dX2_fillBand_161 : decode cX2_fillBand 161 = .ok (.aload_n 0, 1) := by decide +kernel
theorem dX2_fillBand_162 : decode cX2_fillBand 162 = .ok (.getfield 25, 3) := by decide +kernel
theorem dX2_fillBand_165 : decode cX2_fillBand 165 = .ok (.getfield 59, 3) := by decide +kernel
theorem dX2_fillBand_168 : decode cX2_fillBand 168 = .ok (.iload 7, 2) := by decide +kernel
theorem dX2_fillBand_170 : decode cX2_fillBand 170 = .ok (.invokevirtual 136, 3) := by decide +kernel
theorem dX2_fillBand_173 : decode cX2_fillBand 173 = .ok (.iload 5, 2) := by decide +kernel
theorem dX2_fillBand_175 : decode cX2_fillBand 175 = .ok (.iload 7, 2) := by decide +kernel
theorem dX2_fillBand_177 : decode cX2_fillBand 177 = .ok (.iadd, 1) := by decide +kernel
theorem dX2_fillBand_178 : decode cX2_fillBand 178 = .ok (.istore 5, 2) := by decide +kernel
theorem dX2_fillBand_180 : decode cX2_fillBand 180 = .ok (.iinc 6 1, 3) := by decide +kernel
theorem dX2_fillBand_183 : decode cX2_fillBand 183 = .ok (.goto (-113), 3) := by decide +kernel
theorem dX2_fillBand_186 : decode cX2_fillBand 186 = .ok (.return_, 1) := by decide +kernel
set_option maxRecDepth 20000 in
theorem ggX2_pixelsPerSize_X2_sumOfSizes : GoodIn wsX2_pixelsPerSize wsX2_sumOfSizes := goodIn_r _ [9, 10, 11, 12, 13, 14, 15, 16, 17, 18] (by decide +kernel) (by decide +kernel)
set_option maxRecDepth 20000 in
theorem gX2_pixelsPerSize_X2_sumOfSizes : GoodIn wsX2_pixelsPerSize (wsV RX2 93 RX2 yX2_sumOfSizes wsX2_sumOfSizes) := goodIn_app (goodIn_of _ (by decide +kernel)) ggX2_pixelsPerSize_X2_sumOfSizes
theorem dX2_pixelsPerSize_0 : decode cX2_pixelsPerSize 0 = .ok (.aload_n 0, 1) := by decide +kernel
theorem dX2_pixelsPerSize_1 : decode cX2_pixelsPerSize 1 = .ok (.iload_n 1, 1) := by decide +kernel
theorem dX2_pixelsPerSize_2 : decode cX2_pixelsPerSize 2 = .ok (.aload_n 0, 1) := by decide +kernel
theorem dX2_pixelsPerSize_3 : decode cX2_pixelsPerSize 3 = .ok (.getfield 41, 3) := by decide +kernel
theorem dX2_pixelsPerSize_6 : decode cX2_pixelsPerSize 6 = .ok (.invokevirtual 93, 3) := by decide +kernel
theorem dX2_pixelsPerSize_9 : decode cX2_pixelsPerSize 9 = .ok (.istore_n 2, 1) := by decide +kernel
theorem dX2_pixelsPerSize_10 : decode cX2_pixelsPerSize 10 = .ok (.iload_n 2, 1) := by decide +kernel
theorem dX2_pixelsPerSize_11 : decode cX2_pixelsPerSize 11 = .ok (.ifCond .le 25, 3) := by decide +kernel
theorem dX2_pixelsPerSize_14 : decode cX2_pixelsPerSize 14 = .ok (.aload_n 0, 1) := by decide +kernel
theorem dX2_pixelsPerSize_15 : decode cX2_pixelsPerSize 15 = .ok (.getfield 21, 3) := by decide +kernel
theorem dX2_pixelsPerSize_18 : decode cX2_pixelsPerSize 18 = .ok (.getfield 59, 3) := by decide +kernel
theorem dX2_pixelsPerSize_21 : decode cX2_pixelsPerSize 21 = .ok (.aload_n 0, 1) := by decide +kernel
theorem dX2_pixelsPerSize_22 : decode cX2_pixelsPerSize 22 = .ok (.getfield 21, 3) := by decide +kernel
theorem dX2_pixelsPerSize_25 : decode cX2_pixelsPerSize 25 = .ok (.getfield 62, 3) := by decide +kernel
theorem dX2_pixelsPerSize_28 : decode cX2_pixelsPerSize 28 = .ok (.imul, 1) := by decide +kernel
theorem dX2_pixelsPerSize_29 : decode cX2_pixelsPerSize 29 = .ok (.i2f, 1) := by decide +kernel
theorem dX2_pixelsPerSize_30 : decode cX2_pixelsPerSize 30 = .ok (.iload_n 2, 1) := by decide +kernel
theorem dX2_pixelsPerSize_31 : decode cX2_pixelsPerSize 31 = .ok (.i2f, 1) := by decide +kernel
theorem dX2_pixelsPerSize_32 : decode cX2_pixelsPerSize 32 = .ok (.fdiv, 1) := by decide +kernel
theorem dX2_pixelsPerSize_33 : decode cX2_pixelsPerSize 33 = .ok (.goto 4, 3) := by decide +kernel
theorem dX2_pixelsPerSize_36 : decode cX2_pixelsPerSize 36 = .ok (.fconst 0, 1) := by decide +kernel
theorem dX2_pixelsPerSize_37 : decode cX2_pixelsPerSize 37 = .ok (.freturn, 1) := by decide +kernel
theorem dX2_thicknessOf_0 : decode cX2_thicknessOf 0 = .ok (.iload_n 2, 1) := by decide +kernel
theorem dX2_thicknessOf_1 : decode cX2_thicknessOf 1 = .ok (.ifCond .le 13, 3) := by decide +kernel
theorem dX2_thicknessOf_4 : decode cX2_thicknessOf 4 = .ok (.iload_n 0, 1) := by decide +kernel
theorem dX2_thicknessOf_5 : decode cX2_thicknessOf 5 = .ok (.i2f, 1) := by decide +kernel
theorem dX2_thicknessOf_6 : decode cX2_thicknessOf 6 = .ok (.fload_n 1, 1) := by decide +kernel
theorem dX2_thicknessOf_7 : decode cX2_thicknessOf 7 = .ok (.fmul, 1) := by decide +kernel
theorem dX2_thicknessOf_8 : decode cX2_thicknessOf 8 = .ok (.iload_n 2, 1) := by decide +kernel
theorem dX2_thicknessOf_9 : decode cX2_thicknessOf 9 = .ok (.i2f, 1) := by decide +kernel
theorem dX2_thicknessOf_10 : decode cX2_thicknessOf 10 = .ok (.fdiv, 1) := by decide +kernel
theorem dX2_thicknessOf_11 : decode cX2_thicknessOf 11 = .ok (.goto 4, 3) := by decide +kernel
theorem dX2_thicknessOf_14 : decode cX2_thicknessOf 14 = .ok (.fconst 0, 1) := by decide +kernel
theorem dX2_thicknessOf_15 : decode cX2_thicknessOf 15 = .ok (.freturn, 1) := by decide +kernel
theorem dX2_ratio_0 : decode cX2_ratio 0 = .ok (.fload_n 2, 1) := by decide +kernel
theorem dX2_ratio_1 : decode cX2_ratio 1 = .ok (.fconst 0, 1) := by decide +kernel
theorem dX2_ratio_2 : decode cX2_ratio 2 = .ok (.fcmp .l, 1) := by decide +kernel
theorem dX2_ratio_3 : decode cX2_ratio 3 = .ok (.ifCond .le 12, 3) := by decide +kernel
theorem dX2_ratio_6 : decode cX2_ratio 6 = .ok (.iload_n 0, 1) := by decide +kernel
theorem dX2_ratio_7 : decode cX2_ratio 7 = .ok (.i2f, 1) := by decide +kernel
theorem dX2_ratio_8 : decode cX2_ratio 8 = .ok (.fload_n 1, 1) := by decide +kernel
theorem dX2_ratio_9 : decode cX2_ratio 9 = .ok (.fmul, 1) := by decide +kernel
theorem dX2_ratio_10 : decode cX2_ratio 10 = .ok (.fload_n 2, 1) := by decide +kernel
theorem dX2_ratio_11 : decode cX2_ratio 11 = .ok (.fdiv, 1) := by decide +kernel
theorem dX2_ratio_12 : decode cX2_ratio 12 = .ok (.goto 4, 3) := by decide +kernel
theorem dX2_ratio_15 : decode cX2_ratio 15 = .ok (.fconst 0, 1) := by decide +kernel
theorem dX2_ratio_16 : decode cX2_ratio 16 = .ok (.fstore_n 3, 1) := by decide +kernel
theorem dX2_ratio_17 : decode cX2_ratio 17 = .ok (.fload_n 3, 1) := by decide +kernel
theorem dX2_ratio_18 : decode cX2_ratio 18 = .ok (.fconst 0, 1) := by decide +kernel
theorem dX2_ratio_19 : decode cX2_ratio 19 = .ok (.fcmp .g, 1) := by decide +kernel
theorem dX2_ratio_20 : decode cX2_ratio 20 = .ok (.ifCond .gt 5, 3) := by decide +kernel
theorem dX2_ratio_23 : decode cX2_ratio 23 = .ok (.fconst 0, 1) := by decide +kernel
theorem dX2_ratio_24 : decode cX2_ratio 24 = .ok (.freturn, 1) := by decide +kernel
theorem dX2_ratio_25 : decode cX2_ratio 25 = .ok (.fload_n 3, 1) := by decide +kernel
theorem dX2_ratio_26 : decode cX2_ratio 26 = .ok (.fload_n 2, 1) := by decide +kernel
theorem dX2_ratio_27 : decode cX2_ratio 27 = .ok (.fdiv, 1) := by decide +kernel
theorem dX2_ratio_28 : decode cX2_ratio 28 = .ok (.fstore 4, 2) := by decide +kernel
theorem dX2_ratio_30 : decode cX2_ratio 30 = .ok (.fload_n 2, 1) := by decide +kernel
theorem dX2_ratio_31 : decode cX2_ratio 31 = .ok (.fload_n 3, 1) := by decide +kernel
theorem dX2_ratio_32 : decode cX2_ratio 32 = .ok (.fdiv, 1) := by decide +kernel
theorem dX2_ratio_33 : decode cX2_ratio 33 = .ok (.fstore 5, 2) := by decide +kernel
theorem dX2_ratio_35 : decode cX2_ratio 35 = .ok (.fload 4, 2) := by decide +kernel
theorem dX2_ratio_37 : decode cX2_ratio 37 = .ok (.fload 5, 2) := by decide +kernel
theorem dX2_ratio_39 : decode cX2_ratio 39 = .ok (.fcmp .l, 1) := by decide +kernel
theorem dX2_ratio_40 : decode cX2_ratio 40 = .ok (.ifCond .lt 8, 3) := by decide +kernel
theorem dX2_ratio_43 : decode cX2_ratio 43 = .ok (.fload 4, 2) := by decide +kernel
theorem dX2_ratio_45 : decode cX2_ratio 45 = .ok (.goto 5, 3) := by decide +kernel
theorem dX2_ratio_48 : decode cX2_ratio 48 = .ok (.fload 5, 2) := by decide +kernel
theorem dX2_ratio_50 : decode cX2_ratio 50 = .ok (.freturn, 1) := by decide +kernel
theorem dX2_sumOfSizes_0 : decode cX2_sumOfSizes 0 = .ok (.iconst 0, 1) := by decide +kernel
theorem dX2_sumOfSizes_1 : decode cX2_sumOfSizes 1 = .ok (.istore_n 3, 1) := by decide +kernel
theorem dX2_sumOfSizes_2 : decode cX2_sumOfSizes 2 = .ok (.iload_n 1, 1) := by decide +kernel
theorem dX2_sumOfSizes_3 : decode cX2_sumOfSizes 3 = .ok (.istore 4, 2) := by decide +kernel
theorem dX2_sumOfSizes_5 : decode cX2_sumOfSizes 5 = .ok (.iload 4, 2) := by decide +kernel
theorem dX2_sumOfSizes_7 : decode cX2_sumOfSizes 7 = .ok (.iload_n 2, 1) := by decide +kernel
theorem dX2_sumOfSizes_8 : decode cX2_sumOfSizes 8 = .ok (.if_icmp .ge 19, 3) := by decide +kernel
theorem dX2_sumOfSizes_11 : decode cX2_sumOfSizes 11 = .ok (.iload_n 3, 1) := by decide +kernel
theorem dX2_sumOfSizes_12 : decode cX2_sumOfSizes 12 = .ok (.aload_n 0, 1) := by decide +kernel
theorem dX2_sumOfSizes_13 : decode cX2_sumOfSizes 13 = .ok (.getfield 15, 3) := by decide +kernel
theorem dX2_sumOfSizes_16 : decode cX2_sumOfSizes 16 = .ok (.iload 4, 2) := by decide +kernel
theorem dX2_sumOfSizes_18 : decode cX2_sumOfSizes 18 = .ok (.iaload, 1) := by decide +kernel
theorem dX2_sumOfSizes_19 : decode cX2_sumOfSizes 19 = .ok (.iadd, 1) := by decide +kernel
theorem dX2_sumOfSizes_20 : decode cX2_sumOfSizes 20 = .ok (.istore_n 3, 1) := by decide +kernel
theorem dX2_sumOfSizes_21 : decode cX2_sumOfSizes 21 = .ok (.iinc 4 1, 3) := by decide +kernel
theorem dX2_sumOfSizes_24 : decode cX2_sumOfSizes 24 = .ok (.goto (-19), 3) := by decide +kernel
theorem dX2_sumOfSizes_27 : decode cX2_sumOfSizes 27 = .ok (.iload_n 3, 1) := by decide +kernel
theorem dX2_sumOfSizes_28 : decode cX2_sumOfSizes 28 = .ok (.ireturn, 1) := by decide +kernel
theorem dX3_init_0 : decode cX3_init 0 = .ok (.aload_n 0, 1) := by decide +kernel
theorem dX3_init_1 : decode cX3_init 1 = .ok (.invokespecial 3, 3) := by decide +kernel
theorem dX3_init_4 : decode cX3_init 4 = .ok (.aload_n 0, 1) := by decide +kernel
theorem dX3_init_5 : decode cX3_init 5 = .ok (.bipush 24, 2) := by decide +kernel
theorem dX3_init_7 : decode cX3_init 7 = .ok (.newarray .int, 2) := by decide +kernel
theorem dX3_init_9 : decode cX3_init 9 = .ok (.putfield 9, 3) := by decide +kernel
theorem dX3_init_12 : decode cX3_init 12 = .ok (.aload_n 0, 1) := by decide +kernel
theorem dX3_init_13 : decode cX3_init 13 = .ok (.bipush 24, 2) := by decide +kernel
theorem dX3_init_15 : decode cX3_init 15 = .ok (.newarray .int, 2) := by decide +kernel
theorem dX3_init_17 : decode cX3_init 17 = .ok (.putfield 15, 3) := by decide +kernel
theorem dX3_init_20 : decode cX3_init 20 = .ok (.aload_n 0, 1) := by decide +kernel
theorem dX3_init_21 : decode cX3_init 21 = .ok (.bipush 24, 2) := by decide +kernel
theorem dX3_init_23 : decode cX3_init 23 = .ok (.newarray .int, 2) := by decide +kernel
theorem dX3_init_25 : decode cX3_init 25 = .ok (.putfield 18, 3) := by decide +kernel
theorem dX3_init_28 : decode cX3_init 28 = .ok (.aload_n 0, 1) := by decide +kernel
theorem dX3_init_29 : decode cX3_init 29 = .ok (.bipush 24, 2) := by decide +kernel
theorem dX3_init_31 : decode cX3_init 31 = .ok (.newarray .int, 2) := by decide +kernel
theorem dX3_init_33 : decode cX3_init 33 = .ok (.putfield 21, 3) := by decide +kernel
theorem dX3_init_36 : decode cX3_init 36 = .ok (.return_, 1) := by decide +kernel
theorem dX3_put_0 : decode cX3_put 0 = .ok (.aload_n 0, 1) := by decide +kernel
theorem dX3_put_1 : decode cX3_put 1 = .ok (.getfield 9, 3) := by decide +kernel
theorem dX3_put_4 : decode cX3_put 4 = .ok (.iload_n 1, 1) := by decide +kernel
theorem dX3_put_5 : decode cX3_put 5 = .ok (.iload_n 2, 1) := by decide +kernel
theorem dX3_put_6 : decode cX3_put 6 = .ok (.iastore, 1) := by decide +kernel
theorem dX3_put_7 : decode cX3_put 7 = .ok (.aload_n 0, 1) := by decide +kernel
theorem dX3_put_8 : decode cX3_put 8 = .ok (.getfield 15, 3) := by decide +kernel
theorem dX3_put_11 : decode cX3_put 11 = .ok (.iload_n 1, 1) := by decide +kernel
theorem dX3_put_12 : decode cX3_put 12 = .ok (.iload_n 3, 1) := by decide +kernel
theorem dX3_put_13 : decode cX3_put 13 = .ok (.iastore, 1) := by decide +kernel
theorem dX3_put_14 : decode cX3_put 14 = .ok (.aload_n 0, 1) := by decide +kernel
theorem dX3_put_15 : decode cX3_put 15 = .ok (.getfield 18, 3) := by decide +kernel
theorem dX3_put_18 : decode cX3_put 18 = .ok (.iload_n 1, 1) := by decide +kernel
theorem dX3_put_19 : decode cX3_put 19 = .ok (.iload 4, 2) := by decide +kernel
theorem dX3_put_21 : decode cX3_put 21 = .ok (.iastore, 1) := by decide +kernel
theorem dX3_put_22 : decode cX3_put 22 = .ok (.aload_n 0, 1) := by decide +kernel
theorem dX3_put_23 : decode cX3_put 23 = .ok (.getfield 21, 3) := by decide +kernel
theorem dX3_put_26 : decode cX3_put 26 = .ok (.iload_n 1, 1) := by decide +kernel
theorem dX3_put_27 : decode cX3_put 27 = .ok (.iload 5, 2) := by decide +kernel
theorem dX3_put_29 : decode cX3_put 29 = .ok (.iastore, 1) := by decide +kernel
theorem dX3_put_30 : decode cX3_put 30 = .ok (.return_, 1) := by decide +kernel
theorem dX3_contain_0 : decode cX3_contain 0 = .ok (.iload_n 2, 1) := by decide +kernel
theorem dX3_contain_1 : decode cX3_contain 1 = .ok (.aload_n 0, 1) := by decide +kernel
theorem dX3_contain_2 : decode cX3_contain 2 = .ok (.getfield 9, 3) := by decide +kernel
theorem dX3_contain_5 : decode cX3_contain 5 = .ok (.iload_n 1, 1) := by decide +kernel
theorem dX3_contain_6 : decode cX3_contain 6 = .ok (.iaload, 1) := by decide +kernel
theorem dX3_contain_7 : decode cX3_contain 7 = .ok (.if_icmp .lt 51, 3) := by decide +kernel
theorem dX3_contain_10 : decode cX3_contain 10 = .ok (.iload_n 2, 1) := by decide +kernel
theorem dX3_contain_11 : decode cX3_contain 11 = .ok (.aload_n 0, 1) := by decide +kernel
theorem dX3_contain_12 : decode cX3_contain 12 = .ok (.getfield 9, 3) := by decide +kernel
theorem dX3_contain_15 : decode cX3_contain 15 = .ok (.iload_n 1, 1) := by decide +kernel
theorem dX3_contain_16 : decode cX3_contain 16 = .ok (.iaload, 1) := by decide +kernel
theorem dX3_contain_17 : decode cX3_contain 17 = .ok (.aload_n 0, 1) := by decide +kernel
theorem dX3_contain_18 : decode cX3_contain 18 = .ok (.getfield 18, 3) := by decide +kernel
theorem dX3_contain_21 : decode cX3_contain 21 = .ok (.iload_n 1, 1) := by decide +kernel
theorem dX3_contain_22 : decode cX3_contain 22 = .ok (.iaload, 1) := by decide +kernel
theorem dX3_contain_23 : decode cX3_contain 23 = .ok (.iadd, 1) := by decide +kernel
theorem dX3_contain_24 : decode cX3_contain 24 = .ok (.if_icmp .ge 34, 3) := by decide +kernel
theorem dX3_contain_27 : decode cX3_contain 27 = .ok (.iload_n 3, 1) := by decide +kernel
theorem dX3_contain_28 : decode cX3_contain 28 = .ok (.aload_n 0, 1) := by decide +kernel
theorem dX3_contain_29 : decode cX3_contain 29 = .ok (.getfield 15, 3) := by decide +kernel
theorem dX3_contain_32 : decode cX3_contain 32 = .ok (.iload_n 1, 1) := by decide +kernel
theorem dX3_contain_33 : decode cX3_contain 33 = .ok (.iaload, 1) := by decide +kernel
theorem dX3_contain_34 : decode cX3_contain 34 = .ok (.if_icmp .lt 24, 3) := by decide +kernel
theorem dX3_contain_37 : decode cX3_contain 37 = .ok (.iload_n 3, 1) := by decide +kernel
theorem dX3_contain_38 : decode cX3_contain 38 = .ok (.aload_n 0, 1) := by decide +kernel
theorem dX3_contain_39 : decode cX3_contain 39 = .ok (.getfield 15, 3) := by decide +kernel
theorem dX3_contain_42 : decode cX3_contain 42 = .ok (.iload_n 1, 1) := by decide +kernel
theorem dX3_contain_43 : decode cX3_contain 43 = .ok (.iaload, 1) := by decide +kernel
theorem dX3_contain_44 : decode cX3_contain 44 = .ok (.aload_n 0, 1) := by decide +kernel
theorem dX3_contain_45 : decode cX3_contain 45 = .ok (.getfield 21, 3) := by decide +kernel
theorem dX3_contain_48 : decode cX3_contain 48 = .ok (.iload_n 1, 1) := by decide +kernel
theorem dX3_contain_49 : decode cX3_contain 49 = .ok (.iaload, 1) := by decide +kernel
theorem dX3_contain_50 : decode cX3_contain 50 = .ok (.iadd, 1) := by decide +kernel
theorem dX3_contain_51 : decode cX3_contain 51 = .ok (.if_icmp .ge 7, 3) := by decide +kernel
theorem dX3_contain_54 : decode cX3_contain 54 = .ok (.iconst 1, 1) := by decide +kernel
theorem dX3_contain_55 : decode cX3_contain 55 = .ok (.goto 4, 3) := by decide +kernel
theorem dX3_contain_58 : decode cX3_contain 58 = .ok (.iconst 0, 1) := by decide +kernel
theorem dX3_contain_59 : decode cX3_contain 59 = .ok (.ireturn, 1) := by decide +kernel
theorem dX3_area_0 : decode cX3_area 0 = .ok (.aload_n 0, 1) := by decide +kernel
theorem dX3_area_1 : decode cX3_area 1 = .ok (.getfield 18, 3) := by decide +kernel
theorem dX3_area_4 : decode cX3_area 4 = .ok (.iload_n 1, 1) := by decide +kernel
theorem dX3_area_5 : decode cX3_area 5 = .ok (.iaload, 1) := by decide +kernel
theorem dX3_area_6 : decode cX3_area 6 = .ok (.aload_n 0, 1) := by decide +kernel
theorem dX3_area_7 : decode cX3_area 7 = .ok (.getfield 21, 3) := by decide +kernel
theorem dX3_area_10 : decode cX3_area 10 = .ok (.iload_n 1, 1) := by decide +kernel
theorem dX3_area_11 : decode cX3_area 11 = .ok (.iaload, 1) := by decide +kernel
theorem dX3_area_12 : decode cX3_area 12 = .ok (.imul, 1) := by decide +kernel
theorem dX3_area_13 : decode cX3_area 13 = .ok (.ireturn, 1) := by decide +kernel
theorem dX3_aspect_0 : decode cX3_aspect 0 = .ok (.aload_n 0, 1) := by decide +kernel
theorem dX3_aspect_1 : decode cX3_aspect 1 = .ok (.getfield 18, 3) := by decide +kernel
theorem dX3_aspect_4 : decode cX3_aspect 4 = .ok (.iload_n 1, 1) := by decide +kernel
theorem dX3_aspect_5 : decode cX3_aspect 5 = .ok (.iaload, 1) := by decide +kernel
theorem dX3_aspect_6 : decode cX3_aspect 6 = .ok (.aload_n 0, 1) := by decide +kernel
theorem dX3_aspect_7 : decode cX3_aspect 7 = .ok (.getfield 21, 3) := by decide +kernel
theorem dX3_aspect_10 : decode cX3_aspect 10 = .ok (.iload_n 1, 1) := by decide +kernel
theorem dX3_aspect_11 : decode cX3_aspect 11 = .ok (.iaload, 1) := by decide +kernel
theorem dX3_aspect_12 : decode cX3_aspect 12 = .ok (.invokestatic 24, 3) := by decide +kernel
theorem dX3_aspect_15 : decode cX3_aspect 15 = .ok (.istore_n 2, 1) := by decide +kernel
theorem dX3_aspect_16 : decode cX3_aspect 16 = .ok (.aload_n 0, 1) := by decide +kernel
theorem dX3_aspect_17 : decode cX3_aspect 17 = .ok (.getfield 18, 3) := by decide +kernel
theorem dX3_aspect_20 : decode cX3_aspect 20 = .ok (.iload_n 1, 1) := by decide +kernel
theorem dX3_aspect_21 : decode cX3_aspect 21 = .ok (.iaload, 1) := by decide +kernel
theorem dX3_aspect_22 : decode cX3_aspect 22 = .ok (.aload_n 0, 1) := by decide +kernel
theorem dX3_aspect_23 : decode cX3_aspect 23 = .ok (.getfield 21, 3) := by decide +kernel
theorem dX3_aspect_26 : decode cX3_aspect 26 = .ok (.iload_n 1, 1) := by decide +kernel
theorem dX3_aspect_27 : decode cX3_aspect 27 = .ok (.iaload, 1) := by decide +kernel
theorem dX3_aspect_28 : decode cX3_aspect 28 = .ok (.invokestatic 30, 3) := by decide +kernel
theorem dX3_aspect_31 : decode cX3_aspect 31 = .ok (.istore_n 3, 1) := by decide +kernel
theorem dX3_aspect_32 : decode cX3_aspect 32 = .ok (.iload_n 3, 1) := by decide +kernel
theorem dX3_aspect_33 : decode cX3_aspect 33 = .ok (.ifCond .le 11, 3) := by decide +kernel
theorem dX3_aspect_36 : decode cX3_aspect 36 = .ok (.iload_n 2, 1) := by decide +kernel
theorem dX3_aspect_37 : decode cX3_aspect 37 = .ok (.i2f, 1) := by decide +kernel
theorem dX3_aspect_38 : decode cX3_aspect 38 = .ok (.iload_n 3, 1) := by decide +kernel
theorem dX3_aspect_39 : decode cX3_aspect 39 = .ok (.i2f, 1) := by decide +kernel
theorem dX3_aspect_40 : decode cX3_aspect 40 = .ok (.fdiv, 1) := by decide +kernel
theorem dX3_aspect_41 : decode cX3_aspect 41 = .ok (.goto 4, 3) := by decide +kernel
theorem dX3_aspect_44 : decode cX3_aspect 44 = .ok (.fconst 0, 1) := by decide +kernel
theorem dX3_aspect_45 : decode cX3_aspect 45 = .ok (.freturn, 1) := by decide +kernel
theorem dX3_difference_0 : decode cX3_difference 0 = .ok (.aload_n 0, 1) := by decide +kernel
theorem dX3_difference_1 : decode cX3_difference 1 = .ok (.getfield 9, 3) := by decide +kernel
theorem dX3_difference_4 : decode cX3_difference 4 = .ok (.iload_n 1, 1) := by decide +kernel
theorem dX3_difference_5 : decode cX3_difference 5 = .ok (.iaload, 1) := by decide +kernel
theorem dX3_difference_6 : decode cX3_difference 6 = .ok (.aload_n 2, 1) := by decide +kernel
theorem dX3_difference_7 : decode cX3_difference 7 = .ok (.getfield 9, 3) := by decide +kernel
theorem dX3_difference_10 : decode cX3_difference 10 = .ok (.iload_n 1, 1) := by decide +kernel
theorem dX3_difference_11 : decode cX3_difference 11 = .ok (.iaload, 1) := by decide +kernel
theorem dX3_difference_12 : decode cX3_difference 12 = .ok (.isub, 1) := by decide +kernel
theorem dX3_difference_13 : decode cX3_difference 13 = .ok (.invokestatic 33, 3) := by decide +kernel
theorem dX3_difference_16 : decode cX3_difference 16 = .ok (.aload_n 0, 1) := by decide +kernel
theorem dX3_difference_17 : decode cX3_difference 17 = .ok (.getfield 15, 3) := by decide +kernel
theorem dX3_difference_20 : decode cX3_difference 20 = .ok (.iload_n 1, 1) := by decide +kernel
theorem dX3_difference_21 : decode cX3_difference 21 = .ok (.iaload, 1) := by decide +kernel
theorem dX3_difference_22 : decode cX3_difference 22 = .ok (.aload_n 2, 1) := by decide +kernel
theorem dX3_difference_23 : decode cX3_difference 23 = .ok (.getfield 15, 3) := by decide +kernel
theorem dX3_difference_26 : decode cX3_difference 26 = .ok (.iload_n 1, 1) := by decide +kernel
theorem dX3_difference_27 : decode cX3_difference 27 = .ok (.iaload, 1) := by decide +kernel
theorem dX3_difference_28 : decode cX3_difference 28 = .ok (.isub, 1) := by decide +kernel
theorem dX3_difference_29 : decode cX3_difference 29 = .ok (.invokestatic 33, 3) := by decide +kernel
theorem dX3_difference_32 : decode cX3_difference 32 = .ok (.iadd, 1) := by decide +kernel
theorem dX3_difference_33 : decode cX3_difference 33 = .ok (.aload_n 0, 1) := by decide +kernel
theorem dX3_difference_34 : decode cX3_difference 34 = .ok (.getfield 18, 3) := by decide +kernel
theorem dX3_difference_37 : decode cX3_difference 37 = .ok (.iload_n 1, 1) := by decide +kernel
theorem dX3_difference_38 : decode cX3_difference 38 = .ok (.iaload, 1) := by decide +kernel
theorem dX3_difference_39 : decode cX3_difference 39 = .ok (.aload_n 2, 1) := by decide +kernel
theorem dX3_difference_40 : decode cX3_difference 40 = .ok (.getfield 18, 3) := by decide +kernel
theorem dX3_difference_43 : decode cX3_difference 43 = .ok (.iload_n 1, 1) := by decide +kernel
theorem dX3_difference_44 : decode cX3_difference 44 = .ok (.iaload, 1) := by decide +kernel
theorem dX3_difference_45 : decode cX3_difference 45 = .ok (.isub, 1) := by decide +kernel
theorem dX3_difference_46 : decode cX3_difference 46 = .ok (.invokestatic 33, 3) := by decide +kernel
theorem dX3_difference_49 : decode cX3_difference 49 = .ok (.iadd, 1) := by decide +kernel
theorem dX3_difference_50 : decode cX3_difference 50 = .ok (.aload_n 0, 1) := by decide +kernel
theorem dX3_difference_51 : decode cX3_difference 51 = .ok (.getfield 21, 3) := by decide +kernel
theorem dX3_difference_54 : decode cX3_difference 54 = .ok (.iload_n 1, 1) := by decide +kernel
theorem dX3_difference_55 : decode cX3_difference 55 = .ok (.iaload, 1) := by decide +kernel
theorem dX3_difference_56 : decode cX3_difference 56 = .ok (.aload_n 2, 1) := by decide +kernel
theorem dX3_difference_57 : decode cX3_difference 57 = .ok (.getfield 21, 3) := by decide +kernel
theorem dX3_difference_60 : decode cX3_difference 60 = .ok (.iload_n 1, 1) := by decide +kernel
theorem dX3_difference_61 : decode cX3_difference 61 = .ok (.iaload, 1) := by decide +kernel
theorem dX3_difference_62 : decode cX3_difference 62 = .ok (.isub, 1) := by decide +kernel
theorem dX3_difference_63 : decode cX3_difference 63 = .ok (.invokestatic 33, 3) := by decide +kernel
theorem dX3_difference_66 : decode cX3_difference 66 = .ok (.iadd, 1) := by decide +kernel
theorem dX3_difference_67 : decode cX3_difference 67 = .ok (.ireturn, 1) := by decide +kernel
theorem dX4_init_0 : decode cX4_init 0 = .ok (.aload_n 0, 1) := by decide +kernel
theorem dX4_init_1 : decode cX4_init 1 = .ok (.invokespecial 3, 3) := by decide +kernel
theorem dX4_init_4 : decode cX4_init 4 = .ok (.aload_n 0, 1) := by decide +kernel
theorem dX4_init_5 : decode cX4_init 5 = .ok (.bipush 24, 2) := by decide +kernel
theorem dX4_init_7 : decode cX4_init 7 = .ok (.newarray .int, 2) := by decide +kernel
theorem dX4_init_9 : decode cX4_init 9 = .ok (.putfield 9, 3) := by decide +kernel
theorem dX4_init_12 : decode cX4_init 12 = .ok (.aload_n 0, 1) := by decide +kernel
theorem dX4_init_13 : decode cX4_init 13 = .ok (.bipush 24, 2) := by decide +kernel
theorem dX4_init_15 : decode cX4_init 15 = .ok (.newarray .int, 2) := by decide +kernel
theorem dX4_init_17 : decode cX4_init 17 = .ok (.putfield 15, 3) := by decide +kernel
theorem dX4_init_20 : decode cX4_init 20 = .ok (.aload_n 0, 1) := by decide +kernel
theorem dX4_init_21 : decode cX4_init 21 = .ok (.bipush 24, 2) := by decide +kernel
theorem dX4_init_23 : decode cX4_init 23 = .ok (.newarray .int, 2) := by decide +kernel
theorem dX4_init_25 : decode cX4_init 25 = .ok (.putfield 18, 3) := by decide +kernel
theorem dX4_init_28 : decode cX4_init 28 = .ok (.return_, 1) := by decide +kernel
theorem dX4_clear_0 : decode cX4_clear 0 = .ok (.aload_n 0, 1) := by decide +kernel
theorem dX4_clear_1 : decode cX4_clear 1 = .ok (.iconst 0, 1) := by decide +kernel
theorem dX4_clear_2 : decode cX4_clear 2 = .ok (.putfield 21, 3) := by decide +kernel
theorem dX4_clear_5 : decode cX4_clear 5 = .ok (.return_, 1) := by decide +kernel
theorem dX4_add_0 : decode cX4_add 0 = .ok (.aload_n 0, 1) := by decide +kernel
theorem dX4_add_1 : decode cX4_add 1 = .ok (.getfield 21, 3) := by decide +kernel
theorem dX4_add_4 : decode cX4_add 4 = .ok (.bipush 24, 2) := by decide +kernel
theorem dX4_add_6 : decode cX4_add 6 = .ok (.if_icmp .ge 23, 3) := by decide +kernel
theorem dX4_add_9 : decode cX4_add 9 = .ok (.aload_n 0, 1) := by decide +kernel
theorem dX4_add_10 : decode cX4_add 10 = .ok (.getfield 9, 3) := by decide +kernel
theorem dX4_add_13 : decode cX4_add 13 = .ok (.aload_n 0, 1) := by decide +kernel
theorem dX4_add_14 : decode cX4_add 14 = .ok (.getfield 21, 3) := by decide +kernel
theorem dX4_add_17 : decode cX4_add 17 = .ok (.iload_n 1, 1) := by decide +kernel
theorem dX4_add_18 : decode cX4_add 18 = .ok (.iastore, 1) := by decide +kernel
theorem dX4_add_19 : decode cX4_add 19 = .ok (.aload_n 0, 1) := by decide +kernel
theorem dX4_add_20 : decode cX4_add 20 = .ok (.dup, 1) := by decide +kernel
theorem dX4_add_21 : decode cX4_add 21 = .ok (.getfield 21, 3) := by decide +kernel
theorem dX4_add_24 : decode cX4_add 24 = .ok (.iconst 1, 1) := by decide +kernel
theorem dX4_add_25 : decode cX4_add 25 = .ok (.iadd, 1) := by decide +kernel
theorem dX4_add_26 : decode cX4_add 26 = .ok (.putfield 21, 3) := by decide +kernel
theorem dX4_add_29 : decode cX4_add 29 = .ok (.return_, 1) := by decide +kernel
set_option maxRecDepth 20000 in
theorem ggX4_apportion_X4_largestRemainder : GoodIn wsX4_apportion wsX4_largestRemainder := goodIn_r _ [9, 1, 4, 10, 11, 12, 13] (by decide +kernel) (by decide +kernel)
set_option maxRecDepth 20000 in
theorem gX4_apportion_X4_largestRemainder : GoodIn wsX4_apportion (wsV RX4 25 RX4 yX4_largestRemainder wsX4_largestRemainder) := goodIn_app (goodIn_of _ (by decide +kernel)) ggX4_apportion_X4_largestRemainder
theorem dX4_apportion_0 : decode cX4_apportion 0 = .ok (.iconst 0, 1) := by decide +kernel
theorem dX4_apportion_1 : decode cX4_apportion 1 = .ok (.istore_n 2, 1) := by decide +kernel
theorem dX4_apportion_2 : decode cX4_apportion 2 = .ok (.iconst 0, 1) := by decide +kernel
theorem dX4_apportion_3 : decode cX4_apportion 3 = .ok (.istore_n 3, 1) := by decide +kernel
theorem dX4_apportion_4 : decode cX4_apportion 4 = .ok (.iload_n 3, 1) := by decide +kernel
theorem dX4_apportion_5 : decode cX4_apportion 5 = .ok (.aload_n 0, 1) := by decide +kernel
theorem dX4_apportion_6 : decode cX4_apportion 6 = .ok (.getfield 21, 3) := by decide +kernel
theorem dX4_apportion_9 : decode cX4_apportion 9 = .ok (.if_icmp .ge 18, 3) := by decide +kernel
theorem dX4_apportion_12 : decode cX4_apportion 12 = .ok (.iload_n 2, 1) := by decide +kernel
theorem dX4_apportion_13 : decode cX4_apportion 13 = .ok (.aload_n 0, 1) := by decide +kernel
theorem dX4_apportion_14 : decode cX4_apportion 14 = .ok (.getfield 9, 3) := by decide +kernel
theorem dX4_apportion_17 : decode cX4_apportion 17 = .ok (.iload_n 3, 1) := by decide +kernel
theorem dX4_apportion_18 : decode cX4_apportion 18 = .ok (.iaload, 1) := by decide +kernel
theorem dX4_apportion_19 : decode cX4_apportion 19 = .ok (.iadd, 1) := by decide +kernel
theorem dX4_apportion_20 : decode cX4_apportion 20 = .ok (.istore_n 2, 1) := by decide +kernel
theorem dX4_apportion_21 : decode cX4_apportion 21 = .ok (.iinc 3 1, 3) := by decide +kernel
theorem dX4_apportion_24 : decode cX4_apportion 24 = .ok (.goto (-20), 3) := by decide +kernel
theorem dX4_apportion_27 : decode cX4_apportion 27 = .ok (.iload_n 2, 1) := by decide +kernel
theorem dX4_apportion_28 : decode cX4_apportion 28 = .ok (.ifCond .gt 4, 3) := by decide +kernel
theorem dX4_apportion_31 : decode cX4_apportion 31 = .ok (.return_, 1) := by decide +kernel
theorem dX4_apportion_32 : decode cX4_apportion 32 = .ok (.iload_n 1, 1) := by decide +kernel
theorem dX4_apportion_33 : decode cX4_apportion 33 = .ok (.istore_n 3, 1) := by decide +kernel
theorem dX4_apportion_34 : decode cX4_apportion 34 = .ok (.iconst 0, 1) := by decide +kernel
theorem dX4_apportion_35 : decode cX4_apportion 35 = .ok (.istore 4, 2) := by decide +kernel
theorem dX4_apportion_37 : decode cX4_apportion 37 = .ok (.iload 4, 2) := by decide +kernel
theorem dX4_apportion_39 : decode cX4_apportion 39 = .ok (.aload_n 0, 1) := by decide +kernel
theorem dX4_apportion_40 : decode cX4_apportion 40 = .ok (.getfield 21, 3) := by decide +kernel
theorem dX4_apportion_43 : decode cX4_apportion 43 = .ok (.if_icmp .ge 55, 3) := by decide +kernel
theorem dX4_apportion_46 : decode cX4_apportion 46 = .ok (.aload_n 0, 1) := by decide +kernel
theorem dX4_apportion_47 : decode cX4_apportion 47 = .ok (.getfield 18, 3) := by decide +kernel
theorem dX4_apportion_50 : decode cX4_apportion 50 = .ok (.iload 4, 2) := by decide +kernel
theorem dX4_apportion_52 : decode cX4_apportion 52 = .ok (.aload_n 0, 1) := by decide +kernel
theorem dX4_apportion_53 : decode cX4_apportion 53 = .ok (.getfield 9, 3) := by decide +kernel
theorem dX4_apportion_56 : decode cX4_apportion 56 = .ok (.iload 4, 2) := by decide +kernel
theorem dX4_apportion_58 : decode cX4_apportion 58 = .ok (.iaload, 1) := by decide +kernel
theorem dX4_apportion_59 : decode cX4_apportion 59 = .ok (.iload_n 1, 1) := by decide +kernel
theorem dX4_apportion_60 : decode cX4_apportion 60 = .ok (.imul, 1) := by decide +kernel
theorem dX4_apportion_61 : decode cX4_apportion 61 = .ok (.iload_n 2, 1) := by decide +kernel
theorem dX4_apportion_62 : decode cX4_apportion 62 = .ok (.idiv, 1) := by decide +kernel
theorem dX4_apportion_63 : decode cX4_apportion 63 = .ok (.iastore, 1) := by decide +kernel
theorem dX4_apportion_64 : decode cX4_apportion 64 = .ok (.aload_n 0, 1) := by decide +kernel
theorem dX4_apportion_65 : decode cX4_apportion 65 = .ok (.getfield 15, 3) := by decide +kernel
theorem dX4_apportion_68 : decode cX4_apportion 68 = .ok (.iload 4, 2) := by decide +kernel
theorem dX4_apportion_70 : decode cX4_apportion 70 = .ok (.aload_n 0, 1) := by decide +kernel
theorem dX4_apportion_71 : decode cX4_apportion 71 = .ok (.getfield 9, 3) := by decide +kernel
theorem dX4_apportion_74 : decode cX4_apportion 74 = .ok (.iload 4, 2) := by decide +kernel
theorem dX4_apportion_76 : decode cX4_apportion 76 = .ok (.iaload, 1) := by decide +kernel
theorem dX4_apportion_77 : decode cX4_apportion 77 = .ok (.iload_n 1, 1) := by decide +kernel
theorem dX4_apportion_78 : decode cX4_apportion 78 = .ok (.imul, 1) := by decide +kernel
theorem dX4_apportion_79 : decode cX4_apportion 79 = .ok (.iload_n 2, 1) := by decide +kernel
theorem dX4_apportion_80 : decode cX4_apportion 80 = .ok (.irem, 1) := by decide +kernel
theorem dX4_apportion_81 : decode cX4_apportion 81 = .ok (.iastore, 1) := by decide +kernel
theorem dX4_apportion_82 : decode cX4_apportion 82 = .ok (.iload_n 3, 1) := by decide +kernel
theorem dX4_apportion_83 : decode cX4_apportion 83 = .ok (.aload_n 0, 1) := by decide +kernel
theorem dX4_apportion_84 : decode cX4_apportion 84 = .ok (.getfield 18, 3) := by decide +kernel
theorem dX4_apportion_87 : decode cX4_apportion 87 = .ok (.iload 4, 2) := by decide +kernel
theorem dX4_apportion_89 : decode cX4_apportion 89 = .ok (.iaload, 1) := by decide +kernel
theorem dX4_apportion_90 : decode cX4_apportion 90 = .ok (.isub, 1) := by decide +kernel
theorem dX4_apportion_91 : decode cX4_apportion 91 = .ok (.istore_n 3, 1) := by decide +kernel
theorem dX4_apportion_92 : decode cX4_apportion 92 = .ok (.iinc 4 1, 3) := by decide +kernel
theorem dX4_apportion_95 : decode cX4_apportion 95 = .ok (.goto (-58), 3) := by decide +kernel
theorem dX4_apportion_98 : decode cX4_apportion 98 = .ok (.iconst 0, 1) := by decide +kernel
theorem dX4_apportion_99 : decode cX4_apportion 99 = .ok (.istore 4, 2) := by decide +kernel
theorem dX4_apportion_101 : decode cX4_apportion 101 = .ok (.iload 4, 2) := by decide +kernel
theorem dX4_apportion_103 : decode cX4_apportion 103 = .ok (.iload_n 3, 1) := by decide +kernel
theorem dX4_apportion_104 : decode cX4_apportion 104 = .ok (.if_icmp .ge 43, 3) := by decide +kernel
theorem dX4_apportion_107 : decode cX4_apportion 107 = .ok (.iload 4, 2) := by decide +kernel
theorem dX4_apportion_109 : decode cX4_apportion 109 = .ok (.aload_n 0, 1) := by decide +kernel
theorem dX4_apportion_110 : decode cX4_apportion 110 = .ok (.getfield 21, 3) := by decide +kernel
theorem dX4_apportion_113 : decode cX4_apportion 113 = .ok (.if_icmp .ge 34, 3) := by decide +kernel
theorem dX4_apportion_116 : decode cX4_apportion 116 = .ok (.aload_n 0, 1) := by decide +kernel
theorem dX4_apportion_117 : decode cX4_apportion 117 = .ok (.invokevirtual 25, 3) := by decide +kernel
theorem dX4_apportion_120 : decode cX4_apportion 120 = .ok (.istore 5, 2) := by decide +kernel
theorem dX4_apportion_122 : decode cX4_apportion 122 = .ok (.aload_n 0, 1) := by decide +kernel
theorem dX4_apportion_123 : decode cX4_apportion 123 = .ok (.getfield 18, 3) := by decide +kernel
theorem dX4_apportion_126 : decode cX4_apportion 126 = .ok (.iload 5, 2) := by decide +kernel
theorem dX4_apportion_128 : decode cX4_apportion 128 = .ok (.dup2, 1) := by decide +kernel
theorem dX4_apportion_129 : decode cX4_apportion 129 = .ok (.iaload, 1) := by decide +kernel
theorem dX4_apportion_130 : decode cX4_apportion 130 = .ok (.iconst 1, 1) := by decide +kernel
theorem dX4_apportion_131 : decode cX4_apportion 131 = .ok (.iadd, 1) := by decide +kernel
theorem dX4_apportion_132 : decode cX4_apportion 132 = .ok (.iastore, 1) := by decide +kernel
theorem dX4_apportion_133 : decode cX4_apportion 133 = .ok (.aload_n 0, 1) := by decide +kernel
theorem dX4_apportion_134 : decode cX4_apportion 134 = .ok (.getfield 15, 3) := by decide +kernel
theorem dX4_apportion_137 : decode cX4_apportion 137 = .ok (.iload 5, 2) := by decide +kernel
theorem dX4_apportion_139 : decode cX4_apportion 139 = .ok (.iconst (-1), 1) := by decide +kernel
theorem dX4_apportion_140 : decode cX4_apportion 140 = .ok (.iastore, 1) := by decide +kernel
theorem dX4_apportion_141 : decode cX4_apportion 141 = .ok (.iinc 4 1, 3) := by decide +kernel
theorem dX4_apportion_144 : decode cX4_apportion 144 = .ok (.goto (-43), 3) := by decide +kernel
theorem dX4_apportion_147 : decode cX4_apportion 147 = .ok (.return_, 1) := by decide +kernel
theorem dX4_largestRemainder_0 : decode cX4_largestRemainder 0 = .ok (.iconst 0, 1) := by decide +kernel
theorem dX4_largestRemainder_1 : decode cX4_largestRemainder 1 = .ok (.istore_n 1, 1) := by decide +kernel
theorem dX4_largestRemainder_2 : decode cX4_largestRemainder 2 = .ok (.iconst 1, 1) := by decide +kernel
theorem dX4_largestRemainder_3 : decode cX4_largestRemainder 3 = .ok (.istore_n 2, 1) := by decide +kernel
theorem dX4_largestRemainder_4 : decode cX4_largestRemainder 4 = .ok (.iload_n 2, 1) := by decide +kernel
theorem dX4_largestRemainder_5 : decode cX4_largestRemainder 5 = .ok (.aload_n 0, 1) := by decide +kernel
theorem dX4_largestRemainder_6 : decode cX4_largestRemainder 6 = .ok (.getfield 21, 3) := by decide +kernel
theorem dX4_largestRemainder_9 : decode cX4_largestRemainder 9 = .ok (.if_icmp .ge 26, 3) := by decide +kernel
theorem dX4_largestRemainder_12 : decode cX4_largestRemainder 12 = .ok (.aload_n 0, 1) := by decide +kernel
theorem dX4_largestRemainder_13 : decode cX4_largestRemainder 13 = .ok (.getfield 15, 3) := by decide +kernel
