theorem dX8_far_1 : decode cX8_far 1 = .ok (.ifCond .ge 8, 3) := by decide +kernel
theorem dX8_far_4 : decode cX8_far 4 = .ok (.iload_n 0, 1) := by decide +kernel
theorem dX8_far_5 : decode cX8_far 5 = .ok (.ineg, 1) := by decide +kernel
theorem dX8_far_6 : decode cX8_far 6 = .ok (.goto 4, 3) := by decide +kernel
theorem dX8_far_9 : decode cX8_far 9 = .ok (.iload_n 0, 1) := by decide +kernel
theorem dX8_far_10 : decode cX8_far 10 = .ok (.ireturn, 1) := by decide +kernel
set_option maxRecDepth 20000 in
theorem ggX8_changeBy_X8_isNode : GoodIn wsX8_changeBy wsX8_isNode := goodIn_r _ [11, 1, 12, 13, 10, 14, 107, 108, 109, 110, 111, 112, 113, 114, 115, 116, 117, 118, 119, 120, 121, 122, 123, 124] (by decide +kernel) (by decide +kernel)
set_option maxRecDepth 20000 in
theorem gX8_changeBy_X8_isNode : GoodIn wsX8_changeBy (wsV RX8 75 RX8 yX8_isNode wsX8_isNode) := goodIn_app (goodIn_of _ (by decide +kernel)) ggX8_changeBy_X8_isNode
set_option maxRecDepth 20000 in
theorem ggX8_changeBy_X8_within : GoodIn wsX8_changeBy wsX8_within := goodIn_r _ [14] (by decide +kernel) (by decide +kernel)
set_option maxRecDepth 20000 in
theorem gX8_changeBy_X8_within : GoodIn wsX8_changeBy (va_wsS RX8 56 yX8_within wsX8_within) := goodIn_app (goodIn_of _ (by decide +kernel)) ggX8_changeBy_X8_within
set_option maxRecDepth 20000 in
theorem ggX8_changeBy_X8_fails : GoodIn wsX8_changeBy wsX8_fails := goodIn_r _ [18, 19, 107, 108, 109, 110, 111, 112, 113, 114, 115, 116, 117, 118, 119, 120, 121, 122, 123, 124] (by decide +kernel) (by decide +kernel)
set_option maxRecDepth 20000 in
theorem gX8_changeBy_X8_fails : GoodIn wsX8_changeBy (wsV RX8 64 RX8 yX8_fails wsX8_fails) := goodIn_app (goodIn_of _ (by decide +kernel)) ggX8_changeBy_X8_fails
set_option maxRecDepth 20000 in
theorem ggX8_changeBy_X8_lays : GoodIn wsX8_changeBy wsX8_lays := goodIn_r _ [23, 1, 24, 25, 26, 27, 28, 10, 29, 30, 31, 32, 33, 34, 35, 36, 37, 38, 39, 40, 41, 3, 4, 5, 6, 42, 43, 44, 45, 46, 47, 48, 49, 50, 51, 52, 53, 54, 55, 56, 57, 58, 59, 60, 61, 62, 63, 64, 65, 66, 67, 68, 69, 70, 71, 72, 73, 74, 75, 76, 77, 78, 79, 80, 81, 82, 83, 84, 85, 86, 87, 88, 89, 90, 91, 92, 93, 94, 95, 96, 97, 98, 99, 100, 101, 102, 103, 107, 108, 109, 110, 111, 112, 113, 114, 115, 116, 117, 118, 119, 120, 121, 122, 123, 124] (by decide +kernel) (by decide +kernel)
set_option maxRecDepth 20000 in
theorem gX8_changeBy_X8_lays : GoodIn wsX8_changeBy (wsV RX8 149 RX8 yX8_lays wsX8_lays) := goodIn_app (goodIn_of _ (by decide +kernel)) ggX8_changeBy_X8_lays
set_option maxRecDepth 20000 in
theorem ggX8_changeBy_X8_far : GoodIn wsX8_changeBy wsX8_far := goodIn_r _ [106] (by decide +kernel) (by decide +kernel)
set_option maxRecDepth 20000 in
theorem gX8_changeBy_X8_far : GoodIn wsX8_changeBy (va_wsS RX8 165 yX8_far wsX8_far) := goodIn_app (goodIn_of _ (by decide +kernel)) ggX8_changeBy_X8_far
theorem dX8_changeBy_0 : decode cX8_changeBy 0 = .ok (.aload_n 0, 1) := by decide +kernel
theorem dX8_changeBy_1 : decode cX8_changeBy 1 = .ok (.iload_n 1, 1) := by decide +kernel
theorem dX8_changeBy_2 : decode cX8_changeBy 2 = .ok (.invokevirtual 75, 3) := by decide +kernel
theorem dX8_changeBy_5 : decode cX8_changeBy 5 = .ok (.ifCond .eq 13, 3) := by decide +kernel
theorem dX8_changeBy_8 : decode cX8_changeBy 8 = .ok (.iload_n 2, 1) := by decide +kernel
theorem dX8_changeBy_9 : decode cX8_changeBy 9 = .ok (.iconst 1, 1) := by decide +kernel
theorem dX8_changeBy_10 : decode cX8_changeBy 10 = .ok (.bipush 99, 2) := by decide +kernel
theorem dX8_changeBy_12 : decode cX8_changeBy 12 = .ok (.invokestatic 56, 3) := by decide +kernel
theorem dX8_changeBy_15 : decode cX8_changeBy 15 = .ok (.ifCond .ne 10, 3) := by decide +kernel
theorem dX8_changeBy_18 : decode cX8_changeBy 18 = .ok (.aload_n 0, 1) := by decide +kernel
theorem dX8_changeBy_19 : decode cX8_changeBy 19 = .ok (.bipush (-2), 2) := by decide +kernel
theorem dX8_changeBy_21 : decode cX8_changeBy 21 = .ok (.invokevirtual 64, 3) := by decide +kernel
theorem dX8_changeBy_24 : decode cX8_changeBy 24 = .ok (.ireturn, 1) := by decide +kernel
theorem dX8_changeBy_25 : decode cX8_changeBy 25 = .ok (.aload_n 0, 1) := by decide +kernel
theorem dX8_changeBy_26 : decode cX8_changeBy 26 = .ok (.invokevirtual 149, 3) := by decide +kernel
theorem dX8_changeBy_29 : decode cX8_changeBy 29 = .ok (.iconst 0, 1) := by decide +kernel
theorem dX8_changeBy_30 : decode cX8_changeBy 30 = .ok (.istore_n 3, 1) := by decide +kernel
theorem dX8_changeBy_31 : decode cX8_changeBy 31 = .ok (.iload_n 3, 1) := by decide +kernel
theorem dX8_changeBy_32 : decode cX8_changeBy 32 = .ok (.aload_n 0, 1) := by decide +kernel
theorem dX8_changeBy_33 : decode cX8_changeBy 33 = .ok (.getfield 7, 3) := by decide +kernel
theorem dX8_changeBy_36 : decode cX8_changeBy 36 = .ok (.iconst 0, 1) := by decide +kernel
theorem dX8_changeBy_37 : decode cX8_changeBy 37 = .ok (.iaload, 1) := by decide +kernel
theorem dX8_changeBy_38 : decode cX8_changeBy 38 = .ok (.if_icmp .ge 71, 3) := by decide +kernel
theorem dX8_changeBy_41 : decode cX8_changeBy 41 = .ok (.aload_n 0, 1) := by decide +kernel
theorem dX8_changeBy_42 : decode cX8_changeBy 42 = .ok (.getfield 53, 3) := by decide +kernel
theorem dX8_changeBy_45 : decode cX8_changeBy 45 = .ok (.iconst 4, 1) := by decide +kernel
theorem dX8_changeBy_46 : decode cX8_changeBy 46 = .ok (.iload_n 3, 1) := by decide +kernel
theorem dX8_changeBy_47 : decode cX8_changeBy 47 = .ok (.imul, 1) := by decide +kernel
theorem dX8_changeBy_48 : decode cX8_changeBy 48 = .ok (.aload_n 0, 1) := by decide +kernel
theorem dX8_changeBy_49 : decode cX8_changeBy 49 = .ok (.getfield 25, 3) := by decide +kernel
theorem dX8_changeBy_52 : decode cX8_changeBy 52 = .ok (.iload_n 3, 1) := by decide +kernel
theorem dX8_changeBy_53 : decode cX8_changeBy 53 = .ok (.iaload, 1) := by decide +kernel
theorem dX8_changeBy_54 : decode cX8_changeBy 54 = .ok (.iastore, 1) := by decide +kernel
theorem dX8_changeBy_55 : decode cX8_changeBy 55 = .ok (.aload_n 0, 1) := by decide +kernel
theorem dX8_changeBy_56 : decode cX8_changeBy 56 = .ok (.getfield 53, 3) := by decide +kernel
theorem dX8_changeBy_59 : decode cX8_changeBy 59 = .ok (.iconst 4, 1) := by decide +kernel
theorem dX8_changeBy_60 : decode cX8_changeBy 60 = .ok (.iload_n 3, 1) := by decide +kernel
theorem dX8_changeBy_61 : decode cX8_changeBy 61 = .ok (.imul, 1) := by decide +kernel
theorem dX8_changeBy_62 : decode cX8_changeBy 62 = .ok (.iconst 1, 1) := by decide +kernel
theorem dX8_changeBy_63 : decode cX8_changeBy 63 = .ok (.iadd, 1) := by decide +kernel
theorem dX8_changeBy_64 : decode cX8_changeBy 64 = .ok (.aload_n 0, 1) := by decide +kernel
theorem dX8_changeBy_65 : decode cX8_changeBy 65 = .ok (.getfield 28, 3) := by decide +kernel
theorem dX8_changeBy_68 : decode cX8_changeBy 68 = .ok (.iload_n 3, 1) := by decide +kernel
theorem dX8_changeBy_69 : decode cX8_changeBy 69 = .ok (.iaload, 1) := by decide +kernel
theorem dX8_changeBy_70 : decode cX8_changeBy 70 = .ok (.iastore, 1) := by decide +kernel
theorem dX8_changeBy_71 : decode cX8_changeBy 71 = .ok (.aload_n 0, 1) := by decide +kernel
theorem dX8_changeBy_72 : decode cX8_changeBy 72 = .ok (.getfield 53, 3) := by decide +kernel
theorem dX8_changeBy_75 : decode cX8_changeBy 75 = .ok (.iconst 4, 1) := by decide +kernel
theorem dX8_changeBy_76 : decode cX8_changeBy 76 = .ok (.iload_n 3, 1) := by decide +kernel
theorem dX8_changeBy_77 : decode cX8_changeBy 77 = .ok (.imul, 1) := by decide +kernel
theorem dX8_changeBy_78 : decode cX8_changeBy 78 = .ok (.iconst 2, 1) := by decide +kernel
theorem dX8_changeBy_79 : decode cX8_changeBy 79 = .ok (.iadd, 1) := by decide +kernel
theorem dX8_changeBy_80 : decode cX8_changeBy 80 = .ok (.aload_n 0, 1) := by decide +kernel
theorem dX8_changeBy_81 : decode cX8_changeBy 81 = .ok (.getfield 31, 3) := by decide +kernel
theorem dX8_changeBy_84 : decode cX8_changeBy 84 = .ok (.iload_n 3, 1) := by decide +kernel
theorem dX8_changeBy_85 : decode cX8_changeBy 85 = .ok (.iaload, 1) := by decide +kernel
theorem dX8_changeBy_86 : decode cX8_changeBy 86 = .ok (.iastore, 1) := by decide +kernel
theorem dX8_changeBy_87 : decode cX8_changeBy 87 = .ok (.aload_n 0, 1) := by decide +kernel
theorem dX8_changeBy_88 : decode cX8_changeBy 88 = .ok (.getfield 53, 3) := by decide +kernel
theorem dX8_changeBy_91 : decode cX8_changeBy 91 = .ok (.iconst 4, 1) := by decide +kernel
theorem dX8_changeBy_92 : decode cX8_changeBy 92 = .ok (.iload_n 3, 1) := by decide +kernel
theorem dX8_changeBy_93 : decode cX8_changeBy 93 = .ok (.imul, 1) := by decide +kernel
theorem dX8_changeBy_94 : decode cX8_changeBy 94 = .ok (.iconst 3, 1) := by decide +kernel
theorem dX8_changeBy_95 : decode cX8_changeBy 95 = .ok (.iadd, 1) := by decide +kernel
theorem dX8_changeBy_96 : decode cX8_changeBy 96 = .ok (.aload_n 0, 1) := by decide +kernel
theorem dX8_changeBy_97 : decode cX8_changeBy 97 = .ok (.getfield 34, 3) := by decide +kernel
theorem dX8_changeBy_100 : decode cX8_changeBy 100 = .ok (.iload_n 3, 1) := by decide +kernel
theorem dX8_changeBy_101 : decode cX8_changeBy 101 = .ok (.iaload, 1) := by decide +kernel
theorem dX8_changeBy_102 : decode cX8_changeBy 102 = .ok (.iastore, 1) := by decide +kernel
theorem dX8_changeBy_103 : decode cX8_changeBy 103 = .ok (.iinc 3 1, 3) := by decide +kernel
theorem dX8_changeBy_106 : decode cX8_changeBy 106 = .ok (.goto (-75), 3) := by decide +kernel
theorem dX8_changeBy_109 : decode cX8_changeBy 109 = .ok (.aload_n 0, 1) := by decide +kernel
theorem dX8_changeBy_110 : decode cX8_changeBy 110 = .ok (.getfield 7, 3) := by decide +kernel
theorem dX8_changeBy_113 : decode cX8_changeBy 113 = .ok (.iconst 5, 1) := by decide +kernel
theorem dX8_changeBy_114 : decode cX8_changeBy 114 = .ok (.iload_n 1, 1) := by decide +kernel
theorem dX8_changeBy_115 : decode cX8_changeBy 115 = .ok (.iadd, 1) := by decide +kernel
theorem dX8_changeBy_116 : decode cX8_changeBy 116 = .ok (.iaload, 1) := by decide +kernel
theorem dX8_changeBy_117 : decode cX8_changeBy 117 = .ok (.istore_n 3, 1) := by decide +kernel
theorem dX8_changeBy_118 : decode cX8_changeBy 118 = .ok (.aload_n 0, 1) := by decide +kernel
theorem dX8_changeBy_119 : decode cX8_changeBy 119 = .ok (.getfield 7, 3) := by decide +kernel
theorem dX8_changeBy_122 : decode cX8_changeBy 122 = .ok (.iconst 5, 1) := by decide +kernel
theorem dX8_changeBy_123 : decode cX8_changeBy 123 = .ok (.iload_n 1, 1) := by decide +kernel
theorem dX8_changeBy_124 : decode cX8_changeBy 124 = .ok (.iadd, 1) := by decide +kernel
theorem dX8_changeBy_125 : decode cX8_changeBy 125 = .ok (.iload_n 2, 1) := by decide +kernel
theorem dX8_changeBy_126 : decode cX8_changeBy 126 = .ok (.iastore, 1) := by decide +kernel
theorem dX8_changeBy_127 : decode cX8_changeBy 127 = .ok (.aload_n 0, 1) := by decide +kernel
theorem dX8_changeBy_128 : decode cX8_changeBy 128 = .ok (.invokevirtual 149, 3) := by decide +kernel
theorem dX8_changeBy_131 : decode cX8_changeBy 131 = .ok (.aload_n 0, 1) := by decide +kernel
theorem dX8_changeBy_132 : decode cX8_changeBy 132 = .ok (.getfield 7, 3) := by decide +kernel
theorem dX8_changeBy_135 : decode cX8_changeBy 135 = .ok (.iconst 5, 1) := by decide +kernel
theorem dX8_changeBy_136 : decode cX8_changeBy 136 = .ok (.iload_n 1, 1) := by decide +kernel
theorem dX8_changeBy_137 : decode cX8_changeBy 137 = .ok (.iadd, 1) := by decide +kernel
theorem dX8_changeBy_138 : decode cX8_changeBy 138 = .ok (.iload_n 3, 1) := by decide +kernel
theorem dX8_changeBy_139 : decode cX8_changeBy 139 = .ok (.iastore, 1) := by decide +kernel
theorem dX8_changeBy_140 : decode cX8_changeBy 140 = .ok (.iconst 0, 1) := by decide +kernel
theorem dX8_changeBy_141 : decode cX8_changeBy 141 = .ok (.istore 4, 2) := by decide +kernel
theorem dX8_changeBy_143 : decode cX8_changeBy 143 = .ok (.iconst 0, 1) := by decide +kernel
theorem dX8_changeBy_144 : decode cX8_changeBy 144 = .ok (.istore 5, 2) := by decide +kernel
theorem dX8_changeBy_146 : decode cX8_changeBy 146 = .ok (.iload 5, 2) := by decide +kernel
theorem dX8_changeBy_148 : decode cX8_changeBy 148 = .ok (.aload_n 0, 1) := by decide +kernel
theorem dX8_changeBy_149 : decode cX8_changeBy 149 = .ok (.getfield 7, 3) := by decide +kernel
theorem dX8_changeBy_152 : decode cX8_changeBy 152 = .ok (.iconst 0, 1) := by decide +kernel
theorem dX8_changeBy_153 : decode cX8_changeBy 153 = .ok (.iaload, 1) := by decide +kernel
theorem dX8_changeBy_154 : decode cX8_changeBy 154 = .ok (.if_icmp .ge 103, 3) := by decide +kernel
theorem dX8_changeBy_157 : decode cX8_changeBy 157 = .ok (.iload 4, 2) := by decide +kernel
theorem dX8_changeBy_159 : decode cX8_changeBy 159 = .ok (.aload_n 0, 1) := by decide +kernel
theorem dX8_changeBy_160 : decode cX8_changeBy 160 = .ok (.getfield 25, 3) := by decide +kernel
theorem dX8_changeBy_163 : decode cX8_changeBy 163 = .ok (.iload 5, 2) := by decide +kernel
theorem dX8_changeBy_165 : decode cX8_changeBy 165 = .ok (.iaload, 1) := by decide +kernel
theorem dX8_changeBy_166 : decode cX8_changeBy 166 = .ok (.aload_n 0, 1) := by decide +kernel
theorem dX8_changeBy_167 : decode cX8_changeBy 167 = .ok (.getfield 53, 3) := by decide +kernel
theorem dX8_changeBy_170 : decode cX8_changeBy 170 = .ok (.iconst 4, 1) := by decide +kernel
theorem dX8_changeBy_171 : decode cX8_changeBy 171 = .ok (.iload 5, 2) := by decide +kernel
theorem dX8_changeBy_173 : decode cX8_changeBy 173 = .ok (.imul, 1) := by decide +kernel
theorem dX8_changeBy_174 : decode cX8_changeBy 174 = .ok (.iaload, 1) := by decide +kernel
theorem dX8_changeBy_175 : decode cX8_changeBy 175 = .ok (.isub, 1) := by decide +kernel
theorem dX8_changeBy_176 : decode cX8_changeBy 176 = .ok (.invokestatic 165, 3) := by decide +kernel
theorem dX8_changeBy_179 : decode cX8_changeBy 179 = .ok (.aload_n 0, 1) := by decide +kernel
theorem dX8_changeBy_180 : decode cX8_changeBy 180 = .ok (.getfield 28, 3) := by decide +kernel
theorem dX8_changeBy_183 : decode cX8_changeBy 183 = .ok (.iload 5, 2) := by decide +kernel
theorem dX8_changeBy_185 : decode cX8_changeBy 185 = .ok (.iaload, 1) := by decide +kernel
theorem dX8_changeBy_186 : decode cX8_changeBy 186 = .ok (.aload_n 0, 1) := by decide +kernel
theorem dX8_changeBy_187 : decode cX8_changeBy 187 = .ok (.getfield 53, 3) := by decide +kernel
theorem dX8_changeBy_190 : decode cX8_changeBy 190 = .ok (.iconst 4, 1) := by decide +kernel
theorem dX8_changeBy_191 : decode cX8_changeBy 191 = .ok (.iload 5, 2) := by decide +kernel
theorem dX8_changeBy_193 : decode cX8_changeBy 193 = .ok (.imul, 1) := by decide +kernel
theorem dX8_changeBy_194 : decode cX8_changeBy 194 = .ok (.iconst 1, 1) := by decide +kernel
theorem dX8_changeBy_195 : decode cX8_changeBy 195 = .ok (.iadd, 1) := by decide +kernel
theorem dX8_changeBy_196 : decode cX8_changeBy 196 = .ok (.iaload, 1) := by decide +kernel
theorem dX8_changeBy_197 : decode cX8_changeBy 197 = .ok (.isub, 1) := by decide +kernel
theorem dX8_changeBy_198 : decode cX8_changeBy 198 = .ok (.invokestatic 165, 3) := by decide +kernel
theorem dX8_changeBy_201 : decode cX8_changeBy 201 = .ok (.iadd, 1) := by decide +kernel
theorem dX8_changeBy_202 : decode cX8_changeBy 202 = .ok (.aload_n 0, 1) := by decide +kernel
theorem dX8_changeBy_203 : decode cX8_changeBy 203 = .ok (.getfield 31, 3) := by decide +kernel
theorem dX8_changeBy_206 : decode cX8_changeBy 206 = .ok (.iload 5, 2) := by decide +kernel
theorem dX8_changeBy_208 : decode cX8_changeBy 208 = .ok (.iaload, 1) := by decide +kernel
theorem dX8_changeBy_209 : decode cX8_changeBy 209 = .ok (.aload_n 0, 1) := by decide +kernel
theorem dX8_changeBy_210 : decode cX8_changeBy 210 = .ok (.getfield 53, 3) := by decide +kernel
theorem dX8_changeBy_213 : decode cX8_changeBy 213 = .ok (.iconst 4, 1) := by decide +kernel
theorem dX8_changeBy_214 : decode cX8_changeBy 214 = .ok (.iload 5, 2) := by decide +kernel
theorem dX8_changeBy_216 : decode cX8_changeBy 216 = .ok (.imul, 1) := by decide +kernel
theorem dX8_changeBy_217 : decode cX8_changeBy 217 = .ok (.iconst 2, 1) := by decide +kernel
theorem dX8_changeBy_218 : decode cX8_changeBy 218 = .ok (.iadd, 1) := by decide +kernel
theorem dX8_changeBy_219 : decode cX8_changeBy 219 = .ok (.iaload, 1) := by decide +kernel
theorem dX8_changeBy_220 : decode cX8_changeBy 220 = .ok (.isub, 1) := by decide +kernel
theorem dX8_changeBy_221 : decode cX8_changeBy 221 = .ok (.invokestatic 165, 3) := by decide +kernel
theorem dX8_changeBy_224 : decode cX8_changeBy 224 = .ok (.iadd, 1) := by decide +kernel
theorem dX8_changeBy_225 : decode cX8_changeBy 225 = .ok (.aload_n 0, 1) := by decide +kernel
theorem dX8_changeBy_226 : decode cX8_changeBy 226 = .ok (.getfield 34, 3) := by decide +kernel
theorem dX8_changeBy_229 : decode cX8_changeBy 229 = .ok (.iload 5, 2) := by decide +kernel
theorem dX8_changeBy_231 : decode cX8_changeBy 231 = .ok (.iaload, 1) := by decide +kernel
theorem dX8_changeBy_232 : decode cX8_changeBy 232 = .ok (.aload_n 0, 1) := by decide +kernel
theorem dX8_changeBy_233 : decode cX8_changeBy 233 = .ok (.getfield 53, 3) := by decide +kernel
theorem dX8_changeBy_236 : decode cX8_changeBy 236 = .ok (.iconst 4, 1) := by decide +kernel
theorem dX8_changeBy_237 : decode cX8_changeBy 237 = .ok (.iload 5, 2) := by decide +kernel
theorem dX8_changeBy_239 : decode cX8_changeBy 239 = .ok (.imul, 1) := by decide +kernel
theorem dX8_changeBy_240 : decode cX8_changeBy 240 = .ok (.iconst 3, 1) := by decide +kernel
theorem dX8_changeBy_241 : decode cX8_changeBy 241 = .ok (.iadd, 1) := by decide +kernel
theorem dX8_changeBy_242 : decode cX8_changeBy 242 = .ok (.iaload, 1) := by decide +kernel
theorem dX8_changeBy_243 : decode cX8_changeBy 243 = .ok (.isub, 1) := by decide +kernel
theorem dX8_changeBy_244 : decode cX8_changeBy 244 = .ok (.invokestatic 165, 3) := by decide +kernel
theorem dX8_changeBy_247 : decode cX8_changeBy 247 = .ok (.iadd, 1) := by decide +kernel
theorem dX8_changeBy_248 : decode cX8_changeBy 248 = .ok (.iadd, 1) := by decide +kernel
theorem dX8_changeBy_249 : decode cX8_changeBy 249 = .ok (.istore 4, 2) := by decide +kernel
theorem dX8_changeBy_251 : decode cX8_changeBy 251 = .ok (.iinc 5 1, 3) := by decide +kernel
theorem dX8_changeBy_254 : decode cX8_changeBy 254 = .ok (.goto (-108), 3) := by decide +kernel
theorem dX8_changeBy_257 : decode cX8_changeBy 257 = .ok (.iload 4, 2) := by decide +kernel
theorem dX8_changeBy_259 : decode cX8_changeBy 259 = .ok (.ireturn, 1) := by decide +kernel
set_option maxRecDepth 20000 in
theorem ggX8_errorCount_X8_within : GoodIn wsX8_errorCount wsX8_within := goodIn_r _ [5] (by decide +kernel) (by decide +kernel)
set_option maxRecDepth 20000 in
theorem gX8_errorCount_X8_within : GoodIn wsX8_errorCount (va_wsS RX8 56 yX8_within wsX8_within) := goodIn_app (goodIn_of _ (by decide +kernel)) ggX8_errorCount_X8_within
set_option maxRecDepth 20000 in
theorem ggX8_errorCount_X8_fails : GoodIn wsX8_errorCount wsX8_fails := goodIn_r _ [9, 1, 10, 11, 12, 13, 14, 15, 16, 17, 18, 19, 20, 21, 22, 23, 24, 25, 26, 27] (by decide +kernel) (by decide +kernel)
set_option maxRecDepth 20000 in
theorem gX8_errorCount_X8_fails : GoodIn wsX8_errorCount (wsV RX8 64 RX8 yX8_fails wsX8_fails) := goodIn_app (goodIn_of _ (by decide +kernel)) ggX8_errorCount_X8_fails
theorem dX8_errorCount_0 : decode cX8_errorCount 0 = .ok (.iload_n 1, 1) := by decide +kernel
theorem dX8_errorCount_1 : decode cX8_errorCount 1 = .ok (.iconst 0, 1) := by decide +kernel
theorem dX8_errorCount_2 : decode cX8_errorCount 2 = .ok (.iconst 2, 1) := by decide +kernel
theorem dX8_errorCount_3 : decode cX8_errorCount 3 = .ok (.invokestatic 56, 3) := by decide +kernel
theorem dX8_errorCount_6 : decode cX8_errorCount 6 = .ok (.ifCond .eq 12, 3) := by decide +kernel
theorem dX8_errorCount_9 : decode cX8_errorCount 9 = .ok (.aload_n 0, 1) := by decide +kernel
theorem dX8_errorCount_10 : decode cX8_errorCount 10 = .ok (.getfield 16, 3) := by decide +kernel
theorem dX8_errorCount_13 : decode cX8_errorCount 13 = .ok (.iload_n 1, 1) := by decide +kernel
theorem dX8_errorCount_14 : decode cX8_errorCount 14 = .ok (.iaload, 1) := by decide +kernel
theorem dX8_errorCount_15 : decode cX8_errorCount 15 = .ok (.goto 9, 3) := by decide +kernel
theorem dX8_errorCount_18 : decode cX8_errorCount 18 = .ok (.aload_n 0, 1) := by decide +kernel
theorem dX8_errorCount_19 : decode cX8_errorCount 19 = .ok (.bipush (-2), 2) := by decide +kernel
theorem dX8_errorCount_21 : decode cX8_errorCount 21 = .ok (.invokevirtual 64, 3) := by decide +kernel
theorem dX8_errorCount_24 : decode cX8_errorCount 24 = .ok (.ireturn, 1) := by decide +kernel
theorem dX8_mix_0 : decode cX8_mix 0 = .ok (.aload_n 0, 1) := by decide +kernel
theorem dX8_mix_1 : decode cX8_mix 1 = .ok (.ldc2_w 168, 3) := by decide +kernel
theorem dX8_mix_4 : decode cX8_mix 4 = .ok (.aload_n 0, 1) := by decide +kernel
theorem dX8_mix_5 : decode cX8_mix 5 = .ok (.getfield 170, 3) := by decide +kernel
theorem dX8_mix_8 : decode cX8_mix 8 = .ok (.lmul, 1) := by decide +kernel
theorem dX8_mix_9 : decode cX8_mix 9 = .ok (.iload_n 1, 1) := by decide +kernel
theorem dX8_mix_10 : decode cX8_mix 10 = .ok (.i2l, 1) := by decide +kernel
theorem dX8_mix_11 : decode cX8_mix 11 = .ok (.ladd, 1) := by decide +kernel
theorem dX8_mix_12 : decode cX8_mix 12 = .ok (.putfield 170, 3) := by decide +kernel
theorem dX8_mix_15 : decode cX8_mix 15 = .ok (.return_, 1) := by decide +kernel
set_option maxRecDepth 20000 in
theorem ggX8_digest_X8_mix : GoodIn wsX8_digest wsX8_mix := goodIn_r _ [16, 17, 2, 120, 121, 122, 123, 124, 125, 126, 127, 128, 129, 130, 131, 132, 133, 134, 135, 136, 137] (by decide +kernel) (by decide +kernel)
set_option maxRecDepth 20000 in
theorem gX8_digest_X8_mix : GoodIn wsX8_digest (wsV RX8 176 RX8 yX8_mix wsX8_mix) := goodIn_app (goodIn_of _ (by decide +kernel)) ggX8_digest_X8_mix
set_option maxRecDepth 20000 in
theorem ggX8_digest_X8_lays : GoodIn wsX8_digest wsX8_lays := goodIn_r _ [21, 5, 6, 11, 22, 23, 24, 15, 25, 26, 27, 28, 29, 30, 31, 32, 33, 34, 35, 36, 37, 7, 8, 9, 10, 38, 39, 40, 41, 42, 43, 44, 45, 46, 47, 48, 49, 50, 51, 52, 53, 54, 55, 56, 57, 58, 59, 60, 61, 62, 63, 64, 65, 66, 67, 68, 69, 70, 71, 72, 73, 74, 75, 76, 77, 78, 79, 80, 81, 82, 83, 84, 85, 86, 87, 88, 89, 90, 91, 92, 93, 94, 95, 96, 97, 98, 99, 120, 121, 122, 123, 124, 125, 126, 127, 128, 129, 130, 131, 132, 133, 134, 135, 136, 137] (by decide +kernel) (by decide +kernel)
set_option maxRecDepth 20000 in
theorem gX8_digest_X8_lays : GoodIn wsX8_digest (wsV RX8 149 RX8 yX8_lays wsX8_lays) := goodIn_app (goodIn_of _ (by decide +kernel)) ggX8_digest_X8_lays
set_option maxRecDepth 20000 in
theorem ggX8_digest_X8_pixels : GoodIn wsX8_digest wsX8_pixels := goodIn_r _ [103, 5, 9, 10, 26, 27, 28, 15, 29, 120, 121, 122, 123, 124, 125, 126, 127, 128, 129, 130, 131, 132, 133, 134, 135, 136, 137] (by decide +kernel) (by decide +kernel)
set_option maxRecDepth 20000 in
theorem gX8_digest_X8_pixels : GoodIn wsX8_digest (wsV RX8 152 RX8 yX8_pixels wsX8_pixels) := goodIn_app (goodIn_of _ (by decide +kernel)) ggX8_digest_X8_pixels
set_option maxRecDepth 20000 in
theorem ggX8_digest_X8_aspects : GoodIn wsX8_digest wsX8_aspects := goodIn_r _ [107, 5, 9, 10, 26, 27, 28, 15, 29, 108, 109, 110, 111, 112, 113, 114, 115, 116, 117, 118, 119, 120, 121, 122, 123, 124, 125, 126, 127, 128, 129, 130, 131, 132, 133, 134, 135, 136, 137] (by decide +kernel) (by decide +kernel)
set_option maxRecDepth 20000 in
theorem gX8_digest_X8_aspects : GoodIn wsX8_digest (wsV RX8 161 RX8 yX8_aspects wsX8_aspects) := goodIn_app (goodIn_of _ (by decide +kernel)) ggX8_digest_X8_aspects
theorem dX8_digest_0 : decode cX8_digest 0 = .ok (.aload_n 0, 1) := by decide +kernel
theorem dX8_digest_1 : decode cX8_digest 1 = .ok (.ldc2_w 174, 3) := by decide +kernel
theorem dX8_digest_4 : decode cX8_digest 4 = .ok (.putfield 170, 3) := by decide +kernel
theorem dX8_digest_7 : decode cX8_digest 7 = .ok (.iconst 0, 1) := by decide +kernel
theorem dX8_digest_8 : decode cX8_digest 8 = .ok (.istore_n 1, 1) := by decide +kernel
theorem dX8_digest_9 : decode cX8_digest 9 = .ok (.iload_n 1, 1) := by decide +kernel
theorem dX8_digest_10 : decode cX8_digest 10 = .ok (.iconst 3, 1) := by decide +kernel
theorem dX8_digest_11 : decode cX8_digest 11 = .ok (.if_icmp .ge 19, 3) := by decide +kernel
theorem dX8_digest_14 : decode cX8_digest 14 = .ok (.aload_n 0, 1) := by decide +kernel
theorem dX8_digest_15 : decode cX8_digest 15 = .ok (.aload_n 0, 1) := by decide +kernel
theorem dX8_digest_16 : decode cX8_digest 16 = .ok (.getfield 16, 3) := by decide +kernel
theorem dX8_digest_19 : decode cX8_digest 19 = .ok (.iload_n 1, 1) := by decide +kernel
theorem dX8_digest_20 : decode cX8_digest 20 = .ok (.iaload, 1) := by decide +kernel
theorem dX8_digest_21 : decode cX8_digest 21 = .ok (.invokevirtual 176, 3) := by decide +kernel
theorem dX8_digest_24 : decode cX8_digest 24 = .ok (.iinc 1 1, 3) := by decide +kernel
theorem dX8_digest_27 : decode cX8_digest 27 = .ok (.goto (-18), 3) := by decide +kernel
theorem dX8_digest_30 : decode cX8_digest 30 = .ok (.aload_n 0, 1) := by decide +kernel
theorem dX8_digest_31 : decode cX8_digest 31 = .ok (.aload_n 0, 1) := by decide +kernel
theorem dX8_digest_32 : decode cX8_digest 32 = .ok (.getfield 60, 3) := by decide +kernel
theorem dX8_digest_35 : decode cX8_digest 35 = .ok (.invokevirtual 176, 3) := by decide +kernel
theorem dX8_digest_38 : decode cX8_digest 38 = .ok (.iconst 1, 1) := by decide +kernel
theorem dX8_digest_39 : decode cX8_digest 39 = .ok (.istore_n 1, 1) := by decide +kernel
theorem dX8_digest_40 : decode cX8_digest 40 = .ok (.iload_n 1, 1) := by decide +kernel
theorem dX8_digest_41 : decode cX8_digest 41 = .ok (.iconst 4, 1) := by decide +kernel
theorem dX8_digest_42 : decode cX8_digest 42 = .ok (.if_icmp .gt 19, 3) := by decide +kernel
theorem dX8_digest_45 : decode cX8_digest 45 = .ok (.aload_n 0, 1) := by decide +kernel
theorem dX8_digest_46 : decode cX8_digest 46 = .ok (.aload_n 0, 1) := by decide +kernel
theorem dX8_digest_47 : decode cX8_digest 47 = .ok (.getfield 7, 3) := by decide +kernel
theorem dX8_digest_50 : decode cX8_digest 50 = .ok (.iload_n 1, 1) := by decide +kernel
theorem dX8_digest_51 : decode cX8_digest 51 = .ok (.iaload, 1) := by decide +kernel
theorem dX8_digest_52 : decode cX8_digest 52 = .ok (.invokevirtual 176, 3) := by decide +kernel
theorem dX8_digest_55 : decode cX8_digest 55 = .ok (.iinc 1 1, 3) := by decide +kernel
theorem dX8_digest_58 : decode cX8_digest 58 = .ok (.goto (-18), 3) := by decide +kernel
theorem dX8_digest_61 : decode cX8_digest 61 = .ok (.aload_n 0, 1) := by decide +kernel
theorem dX8_digest_62 : decode cX8_digest 62 = .ok (.aload_n 0, 1) := by decide +kernel
theorem dX8_digest_63 : decode cX8_digest 63 = .ok (.getfield 7, 3) := by decide +kernel
theorem dX8_digest_66 : decode cX8_digest 66 = .ok (.iconst 0, 1) := by decide +kernel
theorem dX8_digest_67 : decode cX8_digest 67 = .ok (.iaload, 1) := by decide +kernel
theorem dX8_digest_68 : decode cX8_digest 68 = .ok (.invokevirtual 176, 3) := by decide +kernel
theorem dX8_digest_71 : decode cX8_digest 71 = .ok (.aload_n 0, 1) := by decide +kernel
theorem dX8_digest_72 : decode cX8_digest 72 = .ok (.invokevirtual 149, 3) := by decide +kernel
theorem dX8_digest_75 : decode cX8_digest 75 = .ok (.iconst 0, 1) := by decide +kernel
theorem dX8_digest_76 : decode cX8_digest 76 = .ok (.istore_n 1, 1) := by decide +kernel
theorem dX8_digest_77 : decode cX8_digest 77 = .ok (.iload_n 1, 1) := by decide +kernel
theorem dX8_digest_78 : decode cX8_digest 78 = .ok (.aload_n 0, 1) := by decide +kernel
theorem dX8_digest_79 : decode cX8_digest 79 = .ok (.getfield 7, 3) := by decide +kernel
theorem dX8_digest_82 : decode cX8_digest 82 = .ok (.iconst 0, 1) := by decide +kernel
theorem dX8_digest_83 : decode cX8_digest 83 = .ok (.iaload, 1) := by decide +kernel
theorem dX8_digest_84 : decode cX8_digest 84 = .ok (.if_icmp .ge 102, 3) := by decide +kernel
theorem dX8_digest_87 : decode cX8_digest 87 = .ok (.aload_n 0, 1) := by decide +kernel
theorem dX8_digest_88 : decode cX8_digest 88 = .ok (.aload_n 0, 1) := by decide +kernel
theorem dX8_digest_89 : decode cX8_digest 89 = .ok (.getfield 7, 3) := by decide +kernel
theorem dX8_digest_92 : decode cX8_digest 92 = .ok (.iconst 5, 1) := by decide +kernel
theorem dX8_digest_93 : decode cX8_digest 93 = .ok (.iload_n 1, 1) := by decide +kernel
theorem dX8_digest_94 : decode cX8_digest 94 = .ok (.iadd, 1) := by decide +kernel
theorem dX8_digest_95 : decode cX8_digest 95 = .ok (.iaload, 1) := by decide +kernel
theorem dX8_digest_96 : decode cX8_digest 96 = .ok (.invokevirtual 176, 3) := by decide +kernel
theorem dX8_digest_99 : decode cX8_digest 99 = .ok (.aload_n 0, 1) := by decide +kernel
theorem dX8_digest_100 : decode cX8_digest 100 = .ok (.aload_n 0, 1) := by decide +kernel
theorem dX8_digest_101 : decode cX8_digest 101 = .ok (.getfield 41, 3) := by decide +kernel
theorem dX8_digest_104 : decode cX8_digest 104 = .ok (.iload_n 1, 1) := by decide +kernel
theorem dX8_digest_105 : decode cX8_digest 105 = .ok (.iaload, 1) := by decide +kernel
theorem dX8_digest_106 : decode cX8_digest 106 = .ok (.invokevirtual 176, 3) := by decide +kernel
theorem dX8_digest_109 : decode cX8_digest 109 = .ok (.aload_n 0, 1) := by decide +kernel
theorem dX8_digest_110 : decode cX8_digest 110 = .ok (.aload_n 0, 1) := by decide +kernel
theorem dX8_digest_111 : decode cX8_digest 111 = .ok (.getfield 7, 3) := by decide +kernel
theorem dX8_digest_114 : decode cX8_digest 114 = .ok (.bipush 29, 2) := by decide +kernel
theorem dX8_digest_116 : decode cX8_digest 116 = .ok (.iload_n 1, 1) := by decide +kernel
theorem dX8_digest_117 : decode cX8_digest 117 = .ok (.iadd, 1) := by decide +kernel
theorem dX8_digest_118 : decode cX8_digest 118 = .ok (.iaload, 1) := by decide +kernel
theorem dX8_digest_119 : decode cX8_digest 119 = .ok (.invokevirtual 176, 3) := by decide +kernel
theorem dX8_digest_122 : decode cX8_digest 122 = .ok (.aload_n 0, 1) := by decide +kernel
theorem dX8_digest_123 : decode cX8_digest 123 = .ok (.aload_n 0, 1) := by decide +kernel
theorem dX8_digest_124 : decode cX8_digest 124 = .ok (.getfield 25, 3) := by decide +kernel
theorem dX8_digest_127 : decode cX8_digest 127 = .ok (.iload_n 1, 1) := by decide +kernel
theorem dX8_digest_128 : decode cX8_digest 128 = .ok (.iaload, 1) := by decide +kernel
theorem dX8_digest_129 : decode cX8_digest 129 = .ok (.invokevirtual 176, 3) := by decide +kernel
theorem dX8_digest_132 : decode cX8_digest 132 = .ok (.aload_n 0, 1) := by decide +kernel
theorem dX8_digest_133 : decode cX8_digest 133 = .ok (.aload_n 0, 1) := by decide +kernel
theorem dX8_digest_134 : decode cX8_digest 134 = .ok (.getfield 28, 3) := by decide +kernel
theorem dX8_digest_137 : decode cX8_digest 137 = .ok (.iload_n 1, 1) := by decide +kernel
theorem dX8_digest_138 : decode cX8_digest 138 = .ok (.iaload, 1) := by decide +kernel
theorem dX8_digest_139 : decode cX8_digest 139 = .ok (.invokevirtual 176, 3) := by decide +kernel
theorem dX8_digest_142 : decode cX8_digest 142 = .ok (.aload_n 0, 1) := by decide +kernel
theorem dX8_digest_143 : decode cX8_digest 143 = .ok (.aload_n 0, 1) := by decide +kernel
theorem dX8_digest_144 : decode cX8_digest 144 = .ok (.getfield 31, 3) := by decide +kernel
theorem dX8_digest_147 : decode cX8_digest 147 = .ok (.iload_n 1, 1) := by decide +kernel
theorem dX8_digest_148 : decode cX8_digest 148 = .ok (.iaload, 1) := by decide +kernel
theorem dX8_digest_149 : decode cX8_digest 149 = .ok (.invokevirtual 176, 3) := by decide +kernel
theorem dX8_digest_152 : decode cX8_digest 152 = .ok (.aload_n 0, 1) := by decide +kernel
theorem dX8_digest_153 : decode cX8_digest 153 = .ok (.aload_n 0, 1) := by decide +kernel
theorem dX8_digest_154 : decode cX8_digest 154 = .ok (.getfield 34, 3) := by decide +kernel
theorem dX8_digest_157 : decode cX8_digest 157 = .ok (.iload_n 1, 1) := by decide +kernel
theorem dX8_digest_158 : decode cX8_digest 158 = .ok (.iaload, 1) := by decide +kernel
theorem dX8_digest_159 : decode cX8_digest 159 = .ok (.invokevirtual 176, 3) := by decide +kernel
theorem dX8_digest_162 : decode cX8_digest 162 = .ok (.aload_n 0, 1) := by decide +kernel
theorem dX8_digest_163 : decode cX8_digest 163 = .ok (.aload_n 0, 1) := by decide +kernel
theorem dX8_digest_164 : decode cX8_digest 164 = .ok (.getfield 37, 3) := by decide +kernel
theorem dX8_digest_167 : decode cX8_digest 167 = .ok (.iload_n 1, 1) := by decide +kernel
theorem dX8_digest_168 : decode cX8_digest 168 = .ok (.baload, 1) := by decide +kernel
theorem dX8_digest_169 : decode cX8_digest 169 = .ok (.ifCond .eq 7, 3) := by decide +kernel
theorem dX8_digest_172 : decode cX8_digest 172 = .ok (.iconst 1, 1) := by decide +kernel
theorem dX8_digest_173 : decode cX8_digest 173 = .ok (.goto 4, 3) := by decide +kernel
theorem dX8_digest_176 : decode cX8_digest 176 = .ok (.iconst 0, 1) := by decide +kernel
theorem dX8_digest_177 : decode cX8_digest 177 = .ok (.invokevirtual 176, 3) := by decide +kernel
theorem dX8_digest_180 : decode cX8_digest 180 = .ok (.iinc 1 1, 3) := by decide +kernel
theorem dX8_digest_183 : decode cX8_digest 183 = .ok (.goto (-106), 3) := by decide +kernel
theorem dX8_digest_186 : decode cX8_digest 186 = .ok (.aload_n 0, 1) := by decide +kernel
theorem dX8_digest_187 : decode cX8_digest 187 = .ok (.aload_n 0, 1) := by decide +kernel
theorem dX8_digest_188 : decode cX8_digest 188 = .ok (.invokevirtual 152, 3) := by decide +kernel
theorem dX8_digest_191 : decode cX8_digest 191 = .ok (.invokevirtual 176, 3) := by decide +kernel
theorem dX8_digest_194 : decode cX8_digest 194 = .ok (.aload_n 0, 1) := by decide +kernel
theorem dX8_digest_195 : decode cX8_digest 195 = .ok (.aload_n 0, 1) := by decide +kernel
theorem dX8_digest_196 : decode cX8_digest 196 = .ok (.iconst 1, 1) := by decide +kernel
theorem dX8_digest_197 : decode cX8_digest 197 = .ok (.invokevirtual 161, 3) := by decide +kernel
theorem dX8_digest_200 : decode cX8_digest 200 = .ok (.invokevirtual 176, 3) := by decide +kernel
theorem dX8_digest_203 : decode cX8_digest 203 = .ok (.aload_n 0, 1) := by decide +kernel
theorem dX8_digest_204 : decode cX8_digest 204 = .ok (.aload_n 0, 1) := by decide +kernel
theorem dX8_digest_205 : decode cX8_digest 205 = .ok (.iconst 0, 1) := by decide +kernel
theorem dX8_digest_206 : decode cX8_digest 206 = .ok (.invokevirtual 161, 3) := by decide +kernel
theorem dX8_digest_209 : decode cX8_digest 209 = .ok (.invokevirtual 176, 3) := by decide +kernel
theorem dX8_digest_212 : decode cX8_digest 212 = .ok (.aload_n 0, 1) := by decide +kernel
theorem dX8_digest_213 : decode cX8_digest 213 = .ok (.getfield 170, 3) := by decide +kernel
theorem dX8_digest_216 : decode cX8_digest 216 = .ok (.lreturn, 1) := by decide +kernel
theorem dJxf58ca_isNaN_12338_0 : decode cJxf58ca_isNaN_12338 0 = .ok (.fload_n 0, 1) := by decide +kernel
theorem dJxf58ca_isNaN_12338_1 : decode cJxf58ca_isNaN_12338 1 = .ok (.fload_n 0, 1) := by decide +kernel
theorem dJxf58ca_isNaN_12338_2 : decode cJxf58ca_isNaN_12338 2 = .ok (.fcmp .l, 1) := by decide +kernel
theorem dJxf58ca_isNaN_12338_3 : decode cJxf58ca_isNaN_12338 3 = .ok (.ifCond .eq 7, 3) := by decide +kernel
theorem dJxf58ca_isNaN_12338_6 : decode cJxf58ca_isNaN_12338 6 = .ok (.iconst 1, 1) := by decide +kernel
theorem dJxf58ca_isNaN_12338_7 : decode cJxf58ca_isNaN_12338 7 = .ok (.goto 4, 3) := by decide +kernel
theorem dJxf58ca_isNaN_12338_10 : decode cJxf58ca_isNaN_12338 10 = .ok (.iconst 0, 1) := by decide +kernel
theorem dJxf58ca_isNaN_12338_11 : decode cJxf58ca_isNaN_12338 11 = .ok (.ireturn, 1) := by decide +kernel
set_option maxRecDepth 20000 in
theorem ggJxf58ca_floatToIntBits_5c35a_Jxf58ca_isNaN_12338 : GoodIn wsJxf58ca_floatToIntBits_5c35a wsJxf58ca_isNaN_12338 := goodIn_r _ [9] (by decide +kernel) (by decide +kernel)
set_option maxRecDepth 20000 in
theorem gJxf58ca_floatToIntBits_5c35a_Jxf58ca_isNaN_12338 : GoodIn wsJxf58ca_floatToIntBits_5c35a (va_wsS RJxf58ca 59 yJxf58ca_isNaN_12338 wsJxf58ca_isNaN_12338) := goodIn_app (goodIn_of _ (by decide +kernel)) ggJxf58ca_floatToIntBits_5c35a_Jxf58ca_isNaN_12338
theorem dJxf58ca_floatToIntBits_5c35a_0 : decode cJxf58ca_floatToIntBits_5c35a 0 = .ok (.fload_n 0, 1) := by decide +kernel
theorem dJxf58ca_floatToIntBits_5c35a_1 : decode cJxf58ca_floatToIntBits_5c35a 1 = .ok (.invokestatic 59, 3) := by decide +kernel
theorem dJxf58ca_floatToIntBits_5c35a_4 : decode cJxf58ca_floatToIntBits_5c35a 4 = .ok (.ifCond .ne 8, 3) := by decide +kernel
theorem dJxf58ca_floatToIntBits_5c35a_7 : decode cJxf58ca_floatToIntBits_5c35a 7 = .ok (.fload_n 0, 1) := by decide +kernel
theorem dJxf58ca_floatToIntBits_5c35a_8 : decode cJxf58ca_floatToIntBits_5c35a 8 = .ok (.invokestatic 74, 3) := by decide +kernel
theorem dJxf58ca_floatToIntBits_5c35a_11 : decode cJxf58ca_floatToIntBits_5c35a 11 = .ok (.ireturn, 1) := by decide +kernel
theorem dJxf58ca_floatToIntBits_5c35a_12 : decode cJxf58ca_floatToIntBits_5c35a 12 = .ok (.ldc 77, 2) := by decide +kernel
theorem dJxf58ca_floatToIntBits_5c35a_14 : decode cJxf58ca_floatToIntBits_5c35a 14 = .ok (.ireturn, 1) := by decide +kernel
theorem dJ9_abs_0f7a4_0 : decode cJ9_abs_0f7a4 0 = .ok (.iload_n 0, 1) := by decide +kernel
theorem dJ9_abs_0f7a4_1 : decode cJ9_abs_0f7a4 1 = .ok (.ifCond .ge 8, 3) := by decide +kernel
theorem dJ9_abs_0f7a4_4 : decode cJ9_abs_0f7a4 4 = .ok (.iload_n 0, 1) := by decide +kernel
theorem dJ9_abs_0f7a4_5 : decode cJ9_abs_0f7a4 5 = .ok (.ineg, 1) := by decide +kernel
theorem dJ9_abs_0f7a4_6 : decode cJ9_abs_0f7a4 6 = .ok (.goto 4, 3) := by decide +kernel
theorem dJ9_abs_0f7a4_9 : decode cJ9_abs_0f7a4 9 = .ok (.iload_n 0, 1) := by decide +kernel
theorem dJ9_abs_0f7a4_10 : decode cJ9_abs_0f7a4 10 = .ok (.ireturn, 1) := by decide +kernel
theorem dJ9_max_7cf53_0 : decode cJ9_max_7cf53 0 = .ok (.iload_n 0, 1) := by decide +kernel
theorem dJ9_max_7cf53_1 : decode cJ9_max_7cf53 1 = .ok (.iload_n 1, 1) := by decide +kernel
theorem dJ9_max_7cf53_2 : decode cJ9_max_7cf53 2 = .ok (.if_icmp .lt 7, 3) := by decide +kernel
theorem dJ9_max_7cf53_5 : decode cJ9_max_7cf53 5 = .ok (.iload_n 0, 1) := by decide +kernel
theorem dJ9_max_7cf53_6 : decode cJ9_max_7cf53 6 = .ok (.goto 4, 3) := by decide +kernel
theorem dJ9_max_7cf53_9 : decode cJ9_max_7cf53 9 = .ok (.iload_n 1, 1) := by decide +kernel
theorem dJ9_max_7cf53_10 : decode cJ9_max_7cf53 10 = .ok (.ireturn, 1) := by decide +kernel
theorem dJ9_min_7cf53_0 : decode cJ9_min_7cf53 0 = .ok (.iload_n 0, 1) := by decide +kernel
theorem dJ9_min_7cf53_1 : decode cJ9_min_7cf53 1 = .ok (.iload_n 1, 1) := by decide +kernel
theorem dJ9_min_7cf53_2 : decode cJ9_min_7cf53 2 = .ok (.if_icmp .gt 7, 3) := by decide +kernel
theorem dJ9_min_7cf53_5 : decode cJ9_min_7cf53 5 = .ok (.iload_n 0, 1) := by decide +kernel
theorem dJ9_min_7cf53_6 : decode cJ9_min_7cf53 6 = .ok (.goto 4, 3) := by decide +kernel
theorem dJ9_min_7cf53_9 : decode cJ9_min_7cf53 9 = .ok (.iload_n 1, 1) := by decide +kernel
theorem dJ9_min_7cf53_10 : decode cJ9_min_7cf53 10 = .ok (.ireturn, 1) := by decide +kernel
abbrev vwCl : List vw_C := [(RX0, TX0, 4), (RX1, TX1, 8), (RX2, TX2, 8), (RX3, TX3, 4), (RX4, TX4, 4), (RX5, TX5, 7), (RX6, TX6, 3), (RX7, TX7, 8), (RX8, TX8, 18)]
